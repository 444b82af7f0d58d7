/** Boundary cases of promises 24 to 27, 30 to 33 and of the Terms that they use, each under the document's own words. */
public final class TriesBoundariesTest {
  private static final int MOST = Integer.MAX_VALUE;
  private static final int LEAST = Integer.MIN_VALUE;

  public static void main(String[] args) {
    tries();
    halfTheLean();
    aheadRefused();
    partsLeast();
    partsRefused();
    longestWeight();
    longestLeast();
    longestNone();
    longestRefused();
    bestFloor();
    bestEdge();
    bestForRefused();
    step();
    stepLeanZero();
    trustOff();
    trustRefused();
    legFull();
    legRefused();
    legsForEver();
    legsTicks();
    legsRefused();
    drawsSeed();
    drawsLast();
    drawsLeap();
    drawsRefused();
    Check.end();
  }

  private static void tries() {
    Check.by("TRIES: 0 as it is; 1 AIR the other way; 2 another PLATE (told); 3 another FLOOR (told); 4 half the LEAN.");
    PlateRings x = Check.plain("w+k");
    Check.plate(x, "w9d1");
    Check.loss(x, "3", 0, 0, 0);
    x.floor(3, 1, 4);
    x.spin(0, 360, 0);
    x.tick(99);
    Check.due("0: 4 a TICK", x.ahead(0, 3, MOST), 90);
    Check.due("1: 1 a TICK", x.ahead(1, 3, LEAST), 360);
    Check.due("2, itself", x.ahead(2, 3, 0), 90);
    Check.due("2, the last: 12 a TICK", x.ahead(2, 3, 1), 30);
    Check.due("3, itself", x.ahead(3, 3, 0), 90);
    Check.due("3, the last: 8 a TICK", x.ahead(3, 3, 3), 45);
    Check.due("4: 180 by 4", x.ahead(4, 3, -1), 45);
    Check.due("of no LOSSES it STANDS", x.ahead(0, 0, 0), 1);
    x.air(false);
    Check.due("1, with AIR now", x.ahead(1, 3, 0), 90);
    Check.due("0, without AIR", x.ahead(0, 3, 0), 360);
    Check.due("AIR is as it was", x.count(6), 0);
    Check.due("THE PLATE is as it was", x.state(4), 1);
    Check.due("THE PLATE is as it was", x.state(0), 0);
  }

  private static void halfTheLean() {
    Check.by("4 half the LEAN.");
    PlateRings x = Check.plain("1");
    int[] leans = {0, 1, 2, 3, 8999, 9000};
    int[] want = {1, 1, 1, 1, 4499, 4500};
    for (int i = 0; i < leans.length; i++) {
      x.spin(0, leans[i], 0);
      Check.due("half of " + leans[i], x.ahead(4, 1, 0), want[i]);
    }
    Check.by("AHEAD of a TRY by a set of LOSSES: LASTS of THE PLATE's beginning so.");
    x.spin(0, 100, 0);
    x.tick(50);
    Check.due("of its beginning's", x.ahead(4, 1, 0), 50);
    x.tick(20);
    Check.due("of its beginning's", x.ahead(4, 1, 0), 50);
    Check.due("all of it", x.ahead(0, 1, 0), 100);
  }

  private static void aheadRefused() {
    Check.by("AHEAD of a TRY by a set (told: the other PLATE, FLOOR). -1 (set, PLATE, FLOOR); -2 (no such TRY); -3.");
    PlateRings x = Check.plain("1");
    for (int set : new int[] {-1, 2, 256, MOST, LEAST}) {
      Check.due("no set " + set, x.ahead(0, set, 0), -1);
      Check.due("no set " + set + ", no TRY", x.ahead(5, set, 0), -1);
    }
    for (int told : new int[] {-1, 4, 6, MOST, LEAST}) {
      Check.due("no PLATE " + told, x.ahead(2, 1, told), -1);
      Check.due("no FLOOR " + told, x.ahead(3, 1, told), -1);
      Check.due("TRY 0 is told nothing", x.ahead(0, 1, told), -3);
      Check.due("TRY 1 is told nothing", x.ahead(1, 1, told), -3);
      Check.due("TRY 4 is told nothing", x.ahead(4, 1, told), -3);
    }
    Check.due("no PLATE 1, though a FLOOR is", x.ahead(2, 1, 1), -1);
    Check.due("a FLOOR 3, though no PLATE is", x.ahead(3, 1, 3), -3);
    for (int attempt : new int[] {-1, 5, MOST, LEAST}) {
      Check.due("no TRY " + attempt, x.ahead(attempt, 1, 99), -2);
    }
    Check.due("NOBODY", x.count(11), 21);
    Check.due("OTHER", x.count(12), 4);
    Check.due("STATE", x.count(13), 16);
    x.spin(0, 5, 0);
    Check.due("no TRY 5", x.ahead(5, 1, 0), -2);
    Check.due("no PLATE 1", x.ahead(2, 1, 1), -1);
    Check.due("no FLOOR 4", x.ahead(3, 1, 4), -1);
  }

  private static void partsLeast() {
    Check.by("PARTS of two sets: the TRY by which AHEADS are most unlike, of several the least; how unlike.");
    PlateRings x = Check.plain("1", "2");
    x.spin(0, 100, 0);
    Check.due("alike: the least", x.parts(1, 1, 0, 0, 0), 0);
    Check.due("alike: 0", x.parts(1, 1, 0, 0, 1), 0);
    Check.due("no LOSSES at all", x.parts(0, 0, 0, 0, 0), 0);
    Check.due("TRIES 0 to 3 are all 50 off", x.parts(1, 2, 0, 0, 0), 0);
    Check.due("50", x.parts(1, 2, 0, 0, 1), 50);
    Check.due("the other way round", x.parts(2, 1, 0, 0, 1), 50);
    PlateRings each = Check.plain("1+k");
    Check.plate(each, "w1d1h5");
    Check.loss(each, "l/60*5+2", 0, 0, 0);
    each.spin(0, 121, 0);
    Check.due("set 1, TRY 0", each.ahead(0, 1, 0), 121);
    Check.due("set 0: 120 off, of 0, 1, 2, 3 the least", each.parts(1, 0, 1, 0, 0), 0);
    Check.due("set 2 without AIR STANDS at once", each.parts(1, 2, 1, 0, 0), 1);
    Check.due("by 120", each.parts(1, 2, 1, 0, 1), 120);
    PlateRings half = Check.plain();
    Check.loss(half, "l/100*999", 6, 0, 0);
    half.spin(0, 190, 0);
    // 190 LIES in TICK 1, as without the LOSS it STANDS in TICK 1; 95 STANDS either way.
    Check.due("all alike", half.parts(0, 1, 0, 0, 1), 0);
    Check.loss(half, "1", 6, 0, 0);
    Check.due("without LOSS 0 it STANDS in TICK 2", half.parts(1, 2, 0, 0, 0), 0);
    Check.due("both LIE or STAND in TICKS 1, 2", half.parts(1, 2, 0, 0, 1), 1);
    Check.due("half the LEAN: 1 and 2 TICKS too", half.ahead(4, 2, 0) - half.ahead(4, 1, 0), 1);
  }

  private static void partsRefused() {
    Check.by("PARTS of two sets: the TRY (what 0), how unlike (1). -1 (sets, PLATE, FLOOR); -2; -3.");
    PlateRings x = Check.plain("1");
    for (int bad : new int[] {-1, 4, 256, MOST, LEAST}) {
      Check.due("no set one", x.parts(bad, 0, 0, 0, 2), -1);
      Check.due("no set other", x.parts(0, bad, 0, 0, 2), -1);
      Check.due("no PLATE", x.parts(0, 0, bad, 0, 2), -1);
      Check.due("no FLOOR", x.parts(0, 0, 0, bad, 2), -1);
    }
    Check.due("set 2 of one LOSS", x.parts(2, 0, 0, 0, 0), -1);
    Check.due("set 2 of one LOSS", x.parts(0, 2, 0, 0, 0), -1);
    Check.due("PLATE 1", x.parts(0, 0, 1, 0, 0), -1);
    for (int what : new int[] {-1, 2, MOST, LEAST}) {
      Check.due("what " + what, x.parts(1, 1, 0, 3, what), -2);
    }
    Check.due("nothing spins", x.parts(1, 1, 0, 3, 0), -3);
    Check.due("nothing spins", x.parts(0, 0, 0, 0, 1), -3);
    Check.due("NOBODY", x.count(11), 23);
    Check.due("OTHER", x.count(12), 4);
    Check.due("STATE", x.count(13), 2);
  }

  private static void longestWeight() {
    Check.by("LONGEST: of PLATES of no more than a told WEIGHT the one that LASTS longest from a LEAN on a FLOOR");
    PlateRings x = new PlateRings();
    Check.plate(x, "w1d1");
    Check.plate(x, "w50d1");
    Check.plate(x, "w999d1");
    Check.rolling(x, "1+(999-w)/9");
    Check.due("999", x.longest(999, 9000, 0), 2);
    Check.due("998", x.longest(998, 9000, 0), 1);
    Check.due("50", x.longest(50, 9000, 0), 1);
    Check.due("49", x.longest(49, 9000, 0), 0);
    Check.due("1", x.longest(1, 9000, 0), 0);
    Check.due("0", x.longest(0, 9000, 0), -9);
    PlateRings y = new PlateRings();
    for (int i = 0; i < 6; i++) {
      Check.plate(y, "w" + (i + 1) + "d1");
    }
    Check.rolling(y, "1+k*(9-w)");
    Check.due("on a floor without TILT all alike", y.longest(999, 900, 0), 0);
    y.floor(3, 1, 1);
    Check.due("the last of six", y.longest(999, 900, 3), 5);
    Check.due("from LEAN 9000", y.longest(999, 9000, 3), 5);
  }

  private static void longestLeast() {
    Check.by("of several the least number; -9 none.");
    PlateRings x = new PlateRings();
    Check.plate(x, "w9d1");
    Check.plate(x, "w3d1");
    Check.plate(x, "w3d2");
    Check.rolling(x, "w");
    Check.due("the least of two", x.longest(999, 900, 0), 1);
    Check.due("from LEAN 0 all last 1", x.longest(999, 0, 0), 0);
    Check.due("from LEAN 0, of no more than 3", x.longest(3, 0, 0), 1);
  }

  private static void longestNone() {
    Check.by("LONGEST; -9. -1 FLOOR; -4; -6 (WEIGHT 0 .. 999; LEAN 9000).");
    PlateRings x = new PlateRings();
    Check.due("no PLATES", x.longest(999, 9000, 0), -9);
    Check.plate(x, "w2d1");
    Check.due("none so light", x.longest(1, 9000, 0), -9);
    Check.due("none so light", x.longest(0, 0, 3), -9);
    Check.due("-9 is no refusal", Check.refused(x), 0);
  }

  private static void longestRefused() {
    Check.by("-1 FLOOR; -4; -6 (WEIGHT 0 .. 999; LEAN 9000).");
    PlateRings x = Check.plain("1");
    for (int floor : new int[] {-1, 4, MOST, LEAST}) {
      Check.due("no FLOOR " + floor, x.longest(-1, 9001, floor), -1);
      Check.due("no FLOOR " + floor, x.longest(1, 1, floor), -1);
    }
    Check.due("WEIGHT -1", x.longest(-1, 9001, 0), -4);
    Check.due("WEIGHT least", x.longest(LEAST, 0, 0), -4);
    Check.due("LEAN -1", x.longest(1000, -1, 0), -4);
    Check.due("LEAN least", x.longest(999, LEAST, 0), -4);
    Check.due("WEIGHT 1000", x.longest(1000, 0, 0), -6);
    Check.due("WEIGHT most", x.longest(MOST, 0, 0), -6);
    Check.due("LEAN 9001", x.longest(999, 9001, 0), -6);
    Check.due("LEAN most", x.longest(999, MOST, 0), -6);
    Check.due("greatest", x.longest(999, 9000, 3), 0);
    Check.due("NOBODY", x.count(11), 8);
    Check.due("BELOW", x.count(14), 4);
    Check.due("ROOM", x.count(16), 4);
  }

  private static void bestFloor() {
    Check.by("BEST FLOOR for a PLATE likewise.");
    PlateRings x = Check.plain("1+k");
    Check.due("all alike: the least", x.bestFor(0, 9000, 0), 0);
    for (int best = 0; best < 4; best++) {
      for (int floor = 0; floor < 4; floor++) {
        x.floor(floor, 1, floor == best ? 3 : 4);
      }
      Check.due("FLOOR " + best, x.bestFor(0, 900, 0), best);
      Check.due("LEAN 0: all last 1", x.bestFor(0, 0, 0), 0);
    }
    x.floor(1, 1, 3);
    Check.due("1 and 3", x.bestFor(0, 900, 0), 1);
    PlateRings none = Check.plain();
    Check.due("no LOSSES", none.bestFor(0, 900, 0), 0);
  }

  private static void bestEdge() {
    Check.by("BEST EDGE: of EDGES 0 .. 9 (others as they are) that with which a PLATE LASTS longest, of several the least.");
    for (int best = 0; best <= 9; best++) {
      PlateRings x = new PlateRings();
      Check.plate(x, "w7d1e" + (9 - best));
      Check.rolling(x, "1+(e-" + best + ")*(e-" + best + ")+w-7");
      Check.due("EDGE " + best, x.bestFor(0, 900, 1), best);
      Check.due("its own is as it was", x.plateOf(0, 2), 9 - best);
      Check.due("LASTS by its own", x.lasts(0, 900, 0, 1), 1);
    }
    PlateRings y = Check.plain("1");
    Check.plate(y, "w1d1e9");
    Check.due("all alike: the least", y.bestFor(1, 9000, 1), 0);
    Check.loss(y, "1", 3, 0, 0);
    Check.due("below 10 it leaps by all but 9", y.bestFor(1, 9, 1), 9);
    Check.due("at 0 all last 1", y.bestFor(1, 0, 1), 0);
    Check.by("BEST EDGE on FLOOR 0 (1).");
    PlateRings z = Check.plain("1+k*(9-e)");
    z.floor(1, 1, 9);
    z.spin(0, 500, 1);
    Check.due("no TILT on FLOOR 0", z.bestFor(0, 900, 1), 0);
    z.floor(0, 1, 1);
    Check.due("TILT on FLOOR 0", z.bestFor(0, 900, 1), 9);
  }

  private static void bestForRefused() {
    Check.by("BEST FLOOR (what 0), BEST EDGE on FLOOR 0 (1). -1; -2; -4; -6.");
    PlateRings x = Check.plain("1");
    for (int plate : new int[] {-1, 1, 6, MOST, LEAST}) {
      Check.due("no PLATE " + plate, x.bestFor(plate, 5, 0), -1);
      Check.due("no PLATE " + plate + ", all else wrong", x.bestFor(plate, -1, 2), -1);
    }
    for (int what : new int[] {-1, 2, MOST, LEAST}) {
      Check.due("what " + what, x.bestFor(0, 5, what), -2);
      Check.due("what " + what + ", LEAN below", x.bestFor(0, -1, what), -2);
      Check.due("what " + what + ", LEAN above", x.bestFor(0, 9001, what), -2);
    }
    for (int what = 0; what <= 1; what++) {
      Check.due("-1", x.bestFor(0, -1, what), -4);
      Check.due("least", x.bestFor(0, LEAST, what), -4);
      Check.due("9001", x.bestFor(0, 9001, what), -6);
      Check.due("most", x.bestFor(0, MOST, what), -6);
    }
  }

  private static void step() {
    Check.by("STEP of n (1, 2, 5, 10): TICKS n at once: what is taken in one is taken n times");
    PlateRings x = Check.plain("1");
    x.spin(0, 100, 0);
    Check.due("100 by 10", x.trust(0), 10);
    x.spin(0, 105, 0);
    Check.due("110 by 10, 105 by 5", x.trust(0), 5);
    x.spin(0, 106, 0);
    Check.due("110, 110, 106", x.trust(0), 2);
    x.spin(0, 107, 0);
    Check.due("110, 110, 108, 107", x.trust(0), 1);
    PlateRings all = Check.plain("l*l");
    all.spin(0, 9000, 0);
    Check.due("10 times 9999: off by 9", all.trust(9), 10);
    Check.due("8", all.trust(8), 5);
  }

  private static void stepLeanZero() {
    Check.by("(LEAN 0 at least).");
    PlateRings x = Check.plain("7");
    x.spin(0, 1, 0);
    Check.due("10 for 1: off by 9", x.trust(9), 10);
    Check.due("5 for 1: off by 4", x.trust(8), 5);
    Check.due("off by 4", x.trust(4), 5);
    Check.due("2 for 1: off by 1", x.trust(3), 2);
    Check.due("off by 1", x.trust(1), 2);
    Check.due("1 always is", x.trust(0), 1);
    x.spin(0, 0, 0);
    Check.due("from LEAN 0 likewise", x.trust(9), 10);
    Check.due("from LEAN 0 likewise", x.trust(0), 1);
  }

  private static void trustOff() {
    Check.by("TRUST: the greatest STEP with which LASTS (told n for each TICK of it) is off by no more than a told number of TICKS; 1 always is.");
    PlateRings x = Check.plain("l/20+1");
    x.spin(0, 1000, 0);
    x.tick(30);
    int[] lasts = new int[11];
    for (int step : new int[] {1, 2, 5, 10}) {
      for (int lean = 1000; lean > 0; lean -= step * (lean / 20 + 1)) {
        lasts[step] += step;
      }
    }
    for (int off = 0; off <= 60; off++) {
      int want = 1;
      for (int step : new int[] {2, 5, 10}) {
        want = Math.abs(lasts[step] - lasts[1]) <= off ? step : want;
      }
      Check.due("trust(" + off + ")", x.trust(off), want);
    }
    Check.due("THE PLATE is as it was", x.state(3), 30);
    PlateRings none = Check.plain();
    none.spin(0, 100, 0);
    Check.due("it STANDS in one: 1", none.trust(0), 1);
    Check.due("10 for 1", none.trust(9), 10);
    // A greater STEP may be off by less than a lesser one: the greatest counts.
    PlateRings odd = Check.plain("1");
    odd.spin(0, 9, 0);
    Check.due("10, 10, 10 for 9", odd.trust(1), 10);
  }

  private static void trustRefused() {
    Check.by("TRUST. -3; -4; -6 9999.");
    PlateRings x = Check.plain("1");
    for (int ticks : new int[] {-1, 0, 9999, 10000, MOST, LEAST}) {
      Check.due("nothing spins, trust(" + ticks + ")", x.trust(ticks), -3);
    }
    x.spin(0, 100, 0);
    Check.due("-1", x.trust(-1), -4);
    Check.due("least", x.trust(LEAST), -4);
    Check.due("10000", x.trust(10000), -6);
    Check.due("most", x.trust(MOST), -6);
    Check.due("9999", x.trust(9999), 10);
    Check.due("0", x.trust(0), 10);
    Check.due("refusals", Check.refused(x), 622);
  }

  private static void legFull() {
    Check.by("LEGS (4 at most): a FLOOR for so many TICKS (1 .. 999)");
    PlateRings x = Check.plain("1");
    Check.due("the first", x.leg(0, 1), 1);
    Check.due("the second", x.leg(3, 999), 2);
    Check.due("the third", x.leg(3, 1), 3);
    Check.due("the fourth", x.leg(0, 999), 4);
    Check.due("a fifth", x.leg(0, 1), -6);
    Check.due("a fifth, 1000", x.leg(0, 1000), -6);
    Check.due("a fifth, 0", x.leg(0, 0), -4);
    Check.due("a fifth, no FLOOR", x.leg(4, 1), -1);
    Check.due("LEGS", x.count(4), 4);
    Check.due("all four", x.legs(0, 9000), 9000);
    Check.due("there is room again", x.leg(0, 1), 1);
  }

  private static void legRefused() {
    Check.by("A LEG more: how many. -1; -4; -6 (999; 4, too).");
    PlateRings x = new PlateRings();
    for (int floor : new int[] {-1, 4, MOST, LEAST}) {
      Check.due("no FLOOR " + floor, x.leg(floor, 1), -1);
      Check.due("no FLOOR " + floor, x.leg(floor, 0), -1);
      Check.due("no FLOOR " + floor, x.leg(floor, 1000), -1);
    }
    Check.due("0", x.leg(0, 0), -4);
    Check.due("-1", x.leg(0, -1), -4);
    Check.due("least", x.leg(0, LEAST), -4);
    Check.due("1000", x.leg(0, 1000), -6);
    Check.due("most", x.leg(0, MOST), -6);
    Check.due("no LEGS", x.count(4), 0);
  }

  private static void legsForEver() {
    Check.by("then the next, the last one for ever: LASTS so from a beginning.");
    PlateRings x = Check.plain("1+k");
    x.floor(1, 1, 9);
    x.leg(1, 1);
    Check.due("one: for ever", x.legs(0, 9000), 900);
    x.leg(1, 2);
    x.leg(0, 1);
    Check.due("2 by 10, then by 1 for ever", x.legs(0, 9000), 2 + 8980);
    x.leg(0, 999);
    x.leg(0, 999);
    x.leg(0, 999);
    x.leg(1, 1);
    Check.due("2997 by 1, then by 10", x.legs(0, 9000), 2997 + 601);
    x.leg(0, 5);
    x.leg(1, 5);
    Check.due("LEAN 0", x.legs(0, 0), 1);
  }

  private static void legsTicks() {
    Check.by("a FLOOR for so many TICKS (1 .. 999), then the next");
    PlateRings x = Check.plain("1+k");
    x.floor(1, 1, 9);
    for (int lean = 8; lean <= 22; lean++) {
      x.leg(0, 10);
      x.leg(1, 1);
      x.leg(0, 1);
      // 10 TICKS by 1, one by 10, then by 1.
      int want = lean <= 10 ? lean : lean <= 20 ? 11 : 11 + lean - 20;
      Check.due("from " + lean, x.legs(0, lean), want);
      Check.due("they are none then", x.count(4), 0);
    }
    PlateRings y = Check.plain();
    Check.loss(y, "9", 4, 0, 0);
    y.floor(1, 0, 0);
    y.leg(0, 1);
    y.leg(1, 1);
    Check.due("it STANDS on the first", y.legs(0, 90), 1);
    y.leg(1, 1);
    y.leg(0, 1);
    y.leg(1, 1);
    Check.due("it STANDS on the second", y.legs(0, 90), 2);
    PlateRings e = Check.plain("1");
    Check.loss(e, "9", 6, 12, 12);
    e.leg(0, 10);
    e.leg(1, 10);
    Check.due("TICKS go on from LEG to LEG", e.legs(0, 30), 21);
  }

  private static void legsRefused() {
    Check.by("LASTS by LEGS (they are none then). -1; -4; -6; -3 no LEGS.");
    PlateRings x = Check.plain("1");
    Check.due("no PLATE, no LEGS", x.legs(1, -1), -1);
    Check.due("LEAN below, no LEGS", x.legs(0, -1), -4);
    Check.due("LEAN above, no LEGS", x.legs(0, 9001), -6);
    Check.due("no LEGS", x.legs(0, 0), -3);
    x.leg(2, 7);
    for (int plate : new int[] {-1, 1, 6, MOST, LEAST}) {
      Check.due("no PLATE " + plate, x.legs(plate, 5), -1);
    }
    Check.due("-1", x.legs(0, -1), -4);
    Check.due("least", x.legs(0, LEAST), -4);
    Check.due("9001", x.legs(0, 9001), -6);
    Check.due("most", x.legs(0, MOST), -6);
    Check.due("refused they stay", x.count(4), 1);
    Check.due("9000", x.legs(0, 9000), 9000);
    Check.due("they are none then", x.count(4), 0);
    Check.due("no LEGS", x.legs(0, 9000), -3);
    Check.due("nothing spins by it", x.state(0), -3);
  }

  private static int nextSeed(int z) {
    return (int) (((long) z * 1103515245L + 12345L) & 0xffffffffL);
  }

  private static int leanOf(int z) {
    return (int) (1 + (z & 0x7fffffffL) / 65536 % 9000);
  }

  private static void drawsSeed() {
    Check.by("z becomes z times 1103515245 and 12345 (an int); LEAN is 1 and (z without its sign's bit by 65536, cut) modulo 9000");
    PlateRings x = Check.plain("1");
    for (int z : new int[] {0, 1, -1, 2, MOST, LEAST, 1103515245, -12345, 65536, 77777}) {
      int lean = leanOf(nextSeed(z));
      Check.due("the first LEAN of " + z, x.draws(0, 0, 1, z, lean, 0), 1);
      Check.due("it is no more", x.draws(0, 0, 1, z, lean + 1, 0), 0);
      int second = leanOf(nextSeed(nextSeed(z)));
      int both = (lean >= second ? 1 : 0) + 1;
      Check.due("and the second", x.draws(0, 0, 2, z, second, 0), both);
    }
  }

  /** A seed whose next one is as told: the factor is odd, so there is one. */
  private static int seedAhead(int next) {
    int inverse = 1;
    for (int i = 0; i < 6; i++) {
      inverse *= 2 - 1103515245 * inverse;
    }
    return (next - 12345) * inverse;
  }

  private static void drawsLast() {
    Check.by("from a seed z n (1 .. 30) starts");
    PlateRings x = Check.plain("1");
    int[][] nextAndLean = {{0, 1}, {65535, 1}, {65536, 2}, {8999 * 65536, 9000}, {9000 * 65536 - 1, 9000},
        {9000 * 65536, 1}, {LEAST, 1}, {-1, 32767 % 9000 + 1}, {MOST, 32767 % 9000 + 1}};
    for (int[] v : nextAndLean) {
      int z = seedAhead(v[0]);
      Check.due("the seed ahead of " + v[0], nextSeed(z), v[0]);
      Check.due("its LEAN lasts " + v[1], x.draws(0, 0, 1, z, v[1], 0), 1);
      Check.due("no more", x.draws(0, 0, 1, z, v[1] + 1, 0), 0);
    }
    Check.by("how many of them LAST m TICKS or more; how many LEAP.");
    Check.due("all 30 last 0", x.draws(0, 0, 30, 5, 0, 0), 30);
    Check.due("all 30 last 1", x.draws(0, 0, 30, 5, 1, 0), 30);
    Check.due("none lasts 9999", x.draws(0, 0, 30, 5, 9999, 0), 0);
    Check.due("none lasts 9001", x.draws(0, 0, 30, 5, 9001, 0), 0);
    int z = 5;
    int want = 0;
    for (int i = 0; i < 30; i++) {
      z = nextSeed(z);
      want += leanOf(z) >= 4500 ? 1 : 0;
      Check.due("of " + (i + 1), x.draws(0, 0, i + 1, 5, 4500, 0), want);
    }
  }

  private static void drawsLeap() {
    Check.by("DRAWS: how many LAST m or more (what 0), LEAP (1).");
    PlateRings x = Check.plain("1");
    Check.due("none LEAPS without a LEAPING LOSS", x.draws(0, 0, 30, 9, 0, 1), 0);
    Check.loss(x, "k", 3, 0, 0);
    x.floor(2, 1, 9);
    Check.due("none LEAPS on FLOOR 0", x.draws(0, 0, 30, 9, 0, 1), 0);
    Check.due("all LEAP on FLOOR 2", x.draws(0, 2, 30, 9, 0, 1), 30);
    Check.due("whatever m", x.draws(0, 2, 30, 9, 9999, 1), 30);
    // LEANS 10 and 11: 1 and 9 are taken, nothing is left of the one, 1 of the other.
    Check.due("LEAN 10 LIES", x.draws(0, 2, 1, seedAhead(9 * 65536), 0, 1), 0);
    Check.due("LEAN 11 LEAPS", x.draws(0, 2, 1, seedAhead(10 * 65536), 0, 1), 1);
    PlateRings none = Check.plain();
    Check.due("all STAND in 1", none.draws(0, 0, 30, 9, 1, 0), 30);
    Check.due("none in 2", none.draws(0, 0, 30, 9, 2, 0), 0);
  }

  private static void drawsRefused() {
    Check.by("-1; -2; -4; -6 (n 1 .. 30, m 0 .. 9999).");
    PlateRings x = Check.plain("1");
    for (int bad : new int[] {-1, 4, 6, MOST, LEAST}) {
      Check.due("no PLATE " + bad, x.draws(bad, 0, 1, 0, 0, 0), -1);
      Check.due("no FLOOR " + bad, x.draws(0, bad, 1, 0, 0, 0), -1);
      Check.due("no PLATE, all else wrong", x.draws(bad, 0, 0, 0, 10000, 2), -1);
      Check.due("no FLOOR, all else wrong", x.draws(0, bad, 31, 0, -1, 2), -1);
    }
    for (int what : new int[] {-1, 2, MOST, LEAST}) {
      Check.due("what " + what, x.draws(0, 0, 1, 0, 0, what), -2);
      Check.due("what " + what + ", all else wrong", x.draws(0, 0, 0, 0, 10000, what), -2);
    }
    Check.due("n 0", x.draws(0, 0, 0, 0, 10000, 0), -4);
    Check.due("n least", x.draws(0, 0, LEAST, 0, 0, 0), -4);
    Check.due("m -1", x.draws(0, 0, 31, 0, -1, 0), -4);
    Check.due("m least", x.draws(0, 0, 1, 0, LEAST, 1), -4);
    Check.due("n 31", x.draws(0, 0, 31, 0, 0, 0), -6);
    Check.due("n most", x.draws(0, 0, MOST, 0, 0, 1), -6);
    Check.due("m 10000", x.draws(0, 0, 1, 0, 10000, 0), -6);
    Check.due("m most", x.draws(0, 0, 30, 0, MOST, 1), -6);
    Check.due("least of all", x.draws(0, 0, 1, 0, 0, 0), 1);
    Check.due("greatest of all", x.draws(0, 3, 30, MOST, 9999, 1), 0);
    Check.due("NOBODY", x.count(11), 20);
    Check.due("OTHER", x.count(12), 8);
    Check.due("BELOW", x.count(14), 4);
    Check.due("ROOM", x.count(16), 4);
  }
}
