import java.util.ArrayList;
import java.util.List;

/**
 * "the call answers the number, the first that fits in the order in which it tells them; nothing changes but how
 * many there were": each refused call is made on one of two objects that came about alike; then both answer alike.
 */
public final class RefusalsTest {
  private static final int MOST = Integer.MAX_VALUE;
  private static final int LEAST = Integer.MIN_VALUE;
  private static final int[] NO_FLOORS = {-1, 4, MOST, LEAST};
  private static final int[] NO_NUMBERS = {-1, 8, MOST, LEAST};
  private static final int[] NO_SETS = {-1, 256, MOST, LEAST};
  private static final int[] NO_WHATS = {-1, 9, MOST, LEAST};
  private static final int[] ANY = {-1, 0, 1, 10000, 100000, MOST, LEAST};

  private interface Call {
    long on(PlateRings x);
  }

  private interface State {
    PlateRings made();
  }

  private static int seen = 0;

  public static void main(String[] args) {
    Check.by("the call answers the number, the first that fits in the order in which it tells them; nothing changes but how many there were");
    nothingSpins();
    full();
    nobody();
    nobodyInMind();
    other();
    state();
    below();
    above();
    Check.due("refusals were seen", seen > 500 ? 1 : 0, 1);
    Check.end();
  }

  private static PlateRings resting() {
    PlateRings x = Check.plain("l/30+1+k");
    Check.plate(x, "w20d40e3h6b2");
    Check.loss(x, "2+f", 0, 0, 0);
    Check.loss(x, "9", 4, 0, 0);
    x.floor(1, 0, 4);
    x.floor(2, 1, 6);
    x.slip(7);
    x.heard(170);
    x.heard(-1);
    x.leg(1, 5);
    x.leg(2, 900);
    Check.feed(x, "w7d");
    return x;
  }

  private static PlateRings spinning() {
    PlateRings x = resting();
    x.image();
    x.spin(1, 800, 1);
    x.tick(23);
    x.air(false);
    return x;
  }

  private static PlateRings filled() {
    PlateRings x = resting();
    x.plate();
    x.image();
    for (int i = 2; i < 6; i++) {
      Check.plate(x, "w" + i + "d5");
    }
    for (int i = 3; i < 8; i++) {
      Check.rolling(x, "" + i);
    }
    for (int i = 2; i < 24; i++) {
      x.heard(200 + i);
    }
    x.leg(0, 1);
    x.leg(3, 7);
    x.spin(4, 700, 2);
    x.tick(12);
    Check.feed(x, "w7d12345678901234567");
    return x;
  }

  /** All that calls tell of it; the last of them change it, so it is of no use then. */
  private static List<Long> told(PlateRings x) {
    List<Long> all = new ArrayList<>();
    shown(x, all);
    reckoned(x, all);
    for (int floor = 0; floor < 4; floor++) {
      all.add((long) x.floor(floor, 0, 3));
      all.add((long) x.floor(floor, 1, 3));
    }
    all.add((long) x.slip(0));
    all.add((long) x.legs(0, 2000));
    all.add((long) x.restore());
    shown(x, all);
    all.add((long) x.feed(1, '6'));
    all.add((long) x.plate());
    all.add((long) x.plateOf(2, 0));
    all.add((long) x.plateOf(2, 1));
    return all;
  }

  private static void shown(PlateRings x, List<Long> all) {
    for (int what = 0; what <= 6; what++) {
      all.add((long) x.count(what));
      all.add((long) x.state(what));
    }
    for (int i = 0; i < 6; i++) {
      all.add((long) x.plateOf(i, 0));
      all.add((long) x.plateOf(i, 3));
      all.add((long) x.lossOf(i, 0));
      all.add((long) x.lossOf(i, 3));
      all.add((long) x.tenth(i, 0));
      all.add((long) x.tenth(i, 1));
    }
    all.add(x.rolled());
  }

  private static void reckoned(PlateRings x, List<Long> all) {
    all.add((long) x.ear(2));
    all.add((long) x.firstOff(1));
    all.add((long) x.supposed(0));
    all.add((long) x.rules(3));
    all.add((long) x.trust(2));
    all.add((long) x.ahead(0, 7, 0));
    for (int floor = 0; floor < 4; floor++) {
      all.add((long) x.lasts(0, 900, floor, 0));
      all.add((long) x.lasts(1, 700, floor, 0));
    }
  }

  private static void refused(String call, State state, int number, Call one) {
    PlateRings x = state.made();
    PlateRings y = state.made();
    int[] before = new int[17];
    for (int what = 11; what <= 16; what++) {
      before[what] = x.count(what);
    }
    Check.due(call, one.on(x), number);
    for (int what = 11; what <= 16; what++) {
      Check.due("count(" + what + ") behind " + call, x.count(what), before[what] + (what == 10 - number ? 1 : 0));
    }
    Check.due("nothing changes by " + call, told(x).equals(told(y)) ? 0 : 1, 0);
    seen++;
  }

  private static void nothingSpins() {
    Check.by("-3 STATE: it is not as told (nothing spins).");
    for (int v : new int[] {LEAST, -1, 0, 1, 999, 1000, 10000, MOST}) {
      refused("tick " + v, RefusalsTest::resting, -3, x -> x.tick(v));
      refused("state " + v, RefusalsTest::resting, -3, x -> x.state(v));
      refused("rules " + v, RefusalsTest::resting, -3, x -> x.rules(v));
      refused("trust " + v, RefusalsTest::resting, -3, x -> x.trust(v));
      refused("tenth " + v, RefusalsTest::resting, -3, x -> x.tenth(v, 0));
      refused("ahead told " + v, RefusalsTest::resting, -3, x -> x.ahead(4, 7, v));
    }
    refused("rolled", RefusalsTest::resting, -3, x -> x.rolled());
    refused("passes", RefusalsTest::resting, -3, x -> x.passes());
    refused("firstOff", RefusalsTest::resting, -3, x -> x.firstOff(7));
    refused("supposed", RefusalsTest::resting, -3, x -> x.supposed(1));
    refused("ahead", RefusalsTest::resting, -3, x -> x.ahead(2, 7, 1));
    refused("parts", RefusalsTest::resting, -3, x -> x.parts(7, 0, 1, 3, 1));
    refused("ear", RefusalsTest::resting, -3, x -> x.ear(2));
    refused("stagger", RefusalsTest::resting, -3, x -> x.stagger(2));
    refused("restore", RefusalsTest::resting, -3, x -> x.restore());
  }

  private static void full() {
    Check.by("-6 ROOM: a number above the greatest, no room.");
    refused("plate", RefusalsTest::filled, -6, x -> x.plate());
    for (int kind = 0; kind <= 6; kind++) {
      int k = kind;
      refused("loss " + k, RefusalsTest::filled, -6, x -> x.loss(k, 5, 4));
    }
    for (int v : ANY) {
      if (v >= 1) {
        refused("feed " + v, RefusalsTest::filled, -6, x -> x.feed(v, -1L));
        refused("leg " + v, RefusalsTest::filled, -6, x -> x.leg(0, v));
      }
      if (v >= -1) {
        refused("heard " + v, RefusalsTest::filled, -6, x -> x.heard(v));
      }
    }
    refused("feed 0", RefusalsTest::filled, -4, x -> x.feed(0, -1L));
    refused("leg 0", RefusalsTest::filled, -4, x -> x.leg(0, 0));
    refused("leg of no floor", RefusalsTest::filled, -1, x -> x.leg(4, 1));
    refused("heard -2", RefusalsTest::filled, -4, x -> x.heard(-2));
    refused("loss from -1", RefusalsTest::filled, -4, x -> x.loss(6, -1, 10000));
    refused("loss of no kind", RefusalsTest::filled, -1, x -> x.loss(7, -1, 10000));
  }

  private static void nobody() {
    Check.by("-1 NOBODY: no such PLATE, LOSS, FLOOR, KIND, set.");
    for (int bad : NO_NUMBERS) {
      for (int v : ANY) {
        refused("plateOf", RefusalsTest::spinning, -1, x -> x.plateOf(bad, v));
        refused("lossOf", RefusalsTest::spinning, -1, x -> x.lossOf(bad, v));
        refused("loss", RefusalsTest::spinning, -1, x -> x.loss(bad, v, -v));
        refused("toneAt", RefusalsTest::spinning, -1, x -> x.toneAt(bad, v));
        refused("takes of no loss", RefusalsTest::spinning, -1, x -> x.takes(bad, 0, v, 0, -v));
        refused("takes of no plate", RefusalsTest::spinning, -1, x -> x.takes(0, bad, v, 0, -v));
        refused("spin of no plate", RefusalsTest::spinning, -1, x -> x.spin(bad, v, 0));
        refused("legs of no plate", RefusalsTest::spinning, -1, x -> x.legs(bad, v));
      }
    }
    for (int bad : NO_FLOORS) {
      for (int v : ANY) {
        refused("floor", RefusalsTest::spinning, -1, x -> x.floor(bad, v, -v));
        refused("takes on no floor", RefusalsTest::spinning, -1, x -> x.takes(0, 0, v, bad, -v));
        refused("spin on no floor", RefusalsTest::spinning, -1, x -> x.spin(0, v, bad));
        refused("leg on no floor", RefusalsTest::spinning, -1, x -> x.leg(bad, v));
      }
    }
  }

  private static void nobodyInMind() {
    for (int bad : NO_NUMBERS) {
      for (int v : ANY) {
        refused("lasts of no plate", RefusalsTest::spinning, -1, x -> x.lasts(bad, v, 0, v));
        refused("bestFor no plate", RefusalsTest::spinning, -1, x -> x.bestFor(bad, v, v));
        refused("draws of no plate", RefusalsTest::spinning, -1, x -> x.draws(bad, 0, v, 0, -v, v));
        refused("parts of no plate", RefusalsTest::spinning, -1, x -> x.parts(0, 7, bad, 0, v));
      }
      refused("ahead of no plate", RefusalsTest::resting, -1, x -> x.ahead(2, 7, bad));
      refused("stagger of no loss", RefusalsTest::resting, -1, x -> x.stagger(bad));
    }
    for (int bad : NO_FLOORS) {
      for (int v : ANY) {
        refused("lasts on no floor", RefusalsTest::spinning, -1, x -> x.lasts(0, v, bad, v));
        refused("longest on no floor", RefusalsTest::spinning, -1, x -> x.longest(v, -v, bad));
        refused("draws on no floor", RefusalsTest::spinning, -1, x -> x.draws(0, bad, v, 0, -v, v));
        refused("parts on no floor", RefusalsTest::spinning, -1, x -> x.parts(0, 7, 0, bad, v));
      }
      refused("ahead on no floor", RefusalsTest::resting, -1, x -> x.ahead(3, 7, bad));
    }
    for (int bad : NO_SETS) {
      refused("firstOff of no set", RefusalsTest::resting, -1, x -> x.firstOff(bad));
      for (int v : ANY) {
        refused("ahead of no set", RefusalsTest::resting, -1, x -> x.ahead(v, bad, v));
        refused("parts of no set", RefusalsTest::resting, -1, x -> x.parts(bad, 0, 0, 0, v));
        refused("parts of no other set", RefusalsTest::resting, -1, x -> x.parts(0, bad, 0, 0, v));
      }
    }
  }

  private static void other() {
    Check.by("-2 OTHER: what.");
    for (int bad : NO_WHATS) {
      refused("plateOf", RefusalsTest::spinning, -2, x -> x.plateOf(0, bad));
      refused("lossOf", RefusalsTest::spinning, -2, x -> x.lossOf(0, bad));
      refused("state", RefusalsTest::spinning, -2, x -> x.state(bad));
      refused("supposed", RefusalsTest::resting, -2, x -> x.supposed(bad));
      refused("ear", RefusalsTest::resting, -2, x -> x.ear(bad));
      refused("ahead", RefusalsTest::resting, -2, x -> x.ahead(bad, 7, bad));
      refused("parts", RefusalsTest::resting, -2, x -> x.parts(0, 7, 0, 0, bad));
      for (int v : ANY) {
        refused("floor", RefusalsTest::spinning, -2, x -> x.floor(0, bad, v));
        refused("tenth", RefusalsTest::resting, -2, x -> x.tenth(v, bad));
        refused("lasts", RefusalsTest::spinning, -2, x -> x.lasts(0, v, 0, bad));
        refused("bestFor", RefusalsTest::spinning, -2, x -> x.bestFor(0, v, bad));
        refused("draws", RefusalsTest::spinning, -2, x -> x.draws(0, 0, v, 0, -v, bad));
      }
    }
  }

  private static void state() {
    Check.by("-3 STATE: it is not as told (nothing spins).");
    refused("an early one's from", RefusalsTest::spinning, -3, x -> x.loss(6, 1, 0));
    refused("an early one's from", RefusalsTest::spinning, -3, x -> x.loss(6, 9999, 9998));
    State noLegs = () -> {
      PlateRings x = spinning();
      x.legs(0, 5);
      return x;
    };
    refused("no legs", noLegs, -3, x -> x.legs(0, 0));
    refused("no legs", noLegs, -3, x -> x.legs(1, 9000));
    refused("no legs, lean below", noLegs, -4, x -> x.legs(0, -1));
    refused("no legs, lean above", noLegs, -6, x -> x.legs(0, 9001));
    refused("no legs, no plate", noLegs, -1, x -> x.legs(2, 0));
  }

  private static void below() {
    Check.by("-4 BELOW: a number below the least.");
    for (int bad : new int[] {-1, LEAST}) {
      int low = bad == -1 ? 0 : LEAST;
      refused("feed", RefusalsTest::spinning, -4, x -> x.feed(low, -1L));
      refused("tick", RefusalsTest::spinning, -4, x -> x.tick(low));
      refused("leg", RefusalsTest::spinning, -4, x -> x.leg(0, low));
      refused("heard", RefusalsTest::spinning, -4, x -> x.heard(bad - (bad == -1 ? 1 : 0)));
      refused("slip", RefusalsTest::spinning, -4, x -> x.slip(bad));
      refused("loss from", RefusalsTest::spinning, -4, x -> x.loss(6, bad, 10000));
      refused("loss to", RefusalsTest::spinning, -4, x -> x.loss(6, 10000, bad));
      refused("floor", RefusalsTest::spinning, -4, x -> x.floor(0, 1, bad));
      refused("toneAt", RefusalsTest::spinning, -4, x -> x.toneAt(0, bad));
      refused("takes lean", RefusalsTest::spinning, -4, x -> x.takes(0, 0, bad, 0, 10000));
      refused("takes tick", RefusalsTest::spinning, -4, x -> x.takes(0, 0, 9001, 0, bad));
      refused("spin", RefusalsTest::spinning, -4, x -> x.spin(0, bad, 0));
      refused("tenth", RefusalsTest::spinning, -4, x -> x.tenth(bad, 0));
      refused("lasts", RefusalsTest::spinning, -4, x -> x.lasts(0, bad, 0, 0));
      refused("rules", RefusalsTest::spinning, -4, x -> x.rules(bad));
      refused("longest weight", RefusalsTest::spinning, -4, x -> x.longest(bad, 9001, 0));
      refused("longest lean", RefusalsTest::spinning, -4, x -> x.longest(1000, bad, 0));
      refused("bestFor", RefusalsTest::spinning, -4, x -> x.bestFor(0, bad, 1));
      refused("trust", RefusalsTest::spinning, -4, x -> x.trust(bad));
      refused("legs", RefusalsTest::spinning, -4, x -> x.legs(0, bad));
      refused("draws n", RefusalsTest::spinning, -4, x -> x.draws(0, 0, low, 5, 10000, 0));
      refused("draws m", RefusalsTest::spinning, -4, x -> x.draws(0, 0, 31, 5, bad, 0));
    }
  }

  private static void above() {
    Check.by("-6 ROOM: a number above the greatest, no room.");
    for (boolean far : new boolean[] {false, true}) {
      refused("feed", RefusalsTest::spinning, -6, x -> x.feed(far ? MOST : 9, -1L));
      refused("tick", RefusalsTest::spinning, -6, x -> x.tick(far ? MOST : 1000));
      refused("leg", RefusalsTest::spinning, -6, x -> x.leg(0, far ? MOST : 1000));
      refused("heard", RefusalsTest::spinning, -6, x -> x.heard(far ? MOST : 100000));
      refused("slip", RefusalsTest::spinning, -6, x -> x.slip(far ? MOST : 1000));
      refused("loss from", RefusalsTest::spinning, -6, x -> x.loss(6, far ? MOST : 10000, 0));
      refused("loss to", RefusalsTest::spinning, -6, x -> x.loss(6, 0, far ? MOST : 10000));
      refused("floor", RefusalsTest::spinning, -6, x -> x.floor(0, 1, far ? MOST : 10));
      int lean = far ? MOST : 9001;
      refused("toneAt", RefusalsTest::spinning, -6, x -> x.toneAt(0, lean));
      refused("takes lean", RefusalsTest::spinning, -6, x -> x.takes(0, 0, lean, 0, 0));
      refused("spin", RefusalsTest::spinning, -6, x -> x.spin(0, lean, 0));
      refused("lasts", RefusalsTest::spinning, -6, x -> x.lasts(0, lean, 0, 0));
      refused("longest lean", RefusalsTest::spinning, -6, x -> x.longest(999, lean, 0));
      refused("longest weight", RefusalsTest::spinning, -6, x -> x.longest(far ? MOST : 1000, 0, 0));
      refused("bestFor", RefusalsTest::spinning, -6, x -> x.bestFor(0, lean, 0));
      refused("legs", RefusalsTest::spinning, -6, x -> x.legs(0, lean));
      int ticks = far ? MOST : 10000;
      refused("takes tick", RefusalsTest::spinning, -6, x -> x.takes(0, 0, 0, 0, ticks));
      refused("rules", RefusalsTest::spinning, -6, x -> x.rules(ticks));
      refused("trust", RefusalsTest::spinning, -6, x -> x.trust(ticks));
      refused("draws m", RefusalsTest::spinning, -6, x -> x.draws(0, 0, 30, 5, ticks, 0));
      refused("draws n", RefusalsTest::spinning, -6, x -> x.draws(0, 0, far ? MOST : 31, 5, 0, 0));
    }
  }
}
