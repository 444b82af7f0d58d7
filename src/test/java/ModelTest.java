import java.util.ArrayList;
import java.util.List;
import java.util.Random;

/** Long runs of calls, drawn by fixed seeds, on the class and on the model side by side. */
public final class ModelTest {
  private static final int RUNS = 100;
  private static final int CALLS = 500;

  private final Random random;
  private final PlateRings x = new PlateRings();
  private final Model y = new Model();
  private final List<String> calls = new ArrayList<>();
  private static final int[] ANSWERED = new int[35];

  private ModelTest(long seed) {
    random = new Random(seed);
  }

  public static void main(String[] args) {
    for (int run = 0; run < RUNS; run++) {
      new ModelTest(run).run(run);
    }
    for (int i = 0; i < ANSWERED.length; i++) {
      Check.due("calls of kind " + i + " were drawn and not refused", ANSWERED[i] > 0 ? 1 : 0, 1);
    }
    Check.end();
  }

  private void run(int run) {
    for (int i = 0; i < CALLS; i++) {
      if (!call()) {
        System.out.println("run " + run + ":");
        calls.forEach(System.out::println);
        Check.due("run " + run, 1, 0);
        return;
      }
    }
    Check.due("run " + run, 0, 0);
  }

  private int below(int n) {
    return random.nextInt(n);
  }

  /** Mostly within, at times at an edge or outside. */
  private int in(int least, int greatest) {
    switch (below(24)) {
      case 0: return least - 1;
      case 1: return greatest + 1;
      case 2: return least;
      case 3: return greatest;
      case 4: return below(8) == 0 ? random.nextInt() : least;
      default: return least + below(greatest - least + 1);
    }
  }

  private int plateNumber() {
    return below(20) == 0 ? in(0, 5) : below(Math.max(1, y.plates.size()));
  }

  private int lossNumber() {
    return below(20) == 0 ? in(0, 7) : below(Math.max(1, y.losses.size()));
  }

  private int set() {
    return below(20) == 0 ? in(0, 255) : below(1 << y.losses.size());
  }

  private int lean() {
    return below(3) > 0 ? below(700) : in(0, 9000);
  }

  private int tone() {
    if (y.the != null && below(3) > 0) {
      int i = y.row.size();
      return i < y.the.tenths.size() ? y.the.tenths.get(i)[1] : below(500);
    }
    return in(-1, 99999);
  }

  private String number(int greatest) {
    return String.valueOf(below(greatest + 1));
  }

  private String plateText() {
    String s = "w" + number(below(9) == 0 ? 1500 : 400) + "d" + number(below(9) == 0 ? 150 : 99);
    s += below(2) == 0 ? "e" + number(9) : "";
    s += below(2) == 0 ? "h" + number(9) : "";
    s += below(2) == 0 ? "b" + number(9) : "";
    return spoilt(s);
  }

  private String law(int deep) {
    String s = "";
    int atoms = 1 + below(3);
    for (int i = 0; i < atoms; i++) {
      s += i == 0 ? "" : String.valueOf("+-*/".charAt(below(4)));
      int kind = below(6);
      s += kind == 0 && deep < 5 ? "(" + law(deep + 1) + ")"
          : kind < 3 ? number(kind == 1 ? 9 : 300)
          : String.valueOf("llltwdebfk".charAt(below(10)));
    }
    return s;
  }

  private String lawText() {
    switch (below(5)) {
      case 0: return number(3);
      case 1: return "l/" + number(90) + "+" + number(4);
      case 2: return "t/" + number(300);
      default: return spoilt(law(0));
    }
  }

  private String spoilt(String s) {
    if (below(6) == 0 && !s.isEmpty()) {
      int at = below(s.length());
      char c = below(3) == 0 ? (char) below(256) : "wdehbltfk()+-*/0123456789".charAt(below(25));
      return s.substring(0, at) + (below(3) == 0 ? "" : c) + s.substring(at + below(2));
    }
    return s;
  }

  private boolean feed(String s) {
    boolean same = true;
    for (int at = 0; at < s.length(); at += 8) {
      int n = Math.min(8, s.length() - at);
      long bytes = n == 8 ? 0 : random.nextLong() << 8 * n;
      for (int i = 0; i < n; i++) {
        bytes |= (long) s.charAt(at + i) << 8 * i;
      }
      same &= same("feed(" + n + ", " + bytes + "L)", 0, x.feed(n, bytes), y.feed(n, bytes));
    }
    return same;
  }

  private boolean same(String call, int kind, long got, long want) {
    calls.add(call + " answered " + got + ", due is " + want);
    if (want >= 0 || want <= -9) {
      ANSWERED[kind]++;
    }
    return got == want;
  }

  private boolean call() {
    int what = in(0, 1);
    int p = plateNumber();
    int q = lossNumber();
    int f = below(20) == 0 ? in(0, 3) : below(4);
    int v = lean();
    switch (below(42)) {
      case 0: return feedSome();
      case 1: case 36: case 40: return newPlate();
      case 2: case 37: case 41: return newLoss();
      case 3: { int w = in(0, 4); return same("plateOf " + p + " " + w, 2, x.plateOf(p, w), y.plateOf(p, w)); }
      case 4: { int w = in(0, 3); return same("lossOf " + q + " " + w, 4, x.lossOf(q, w), y.lossOf(q, w)); }
      case 5: { int w = in(0, 9); return same("floor " + f + " " + what + " " + w, 5, x.floor(f, what, w), y.floor(f, what, w)); }
      case 6: { boolean b = below(2) == 0; return same("air " + b, 6, x.air(b), y.air(b)); }
      case 7: return same("toneAt " + p + " " + v, 7, x.toneAt(p, v), y.toneAt(p, v));
      case 8: { int t = in(0, 9999); return same("takes " + q + " " + p + " " + v + " " + f + " " + t, 8, x.takes(q, p, v, f, t), y.takes(q, p, v, f, t)); }
      case 9: case 38: return same("spin " + p + " " + v + " " + f, 9, x.spin(p, v, f), y.spin(p, v, f));
      case 10: case 39: { int n = below(3) == 0 ? in(1, 999) : 1 + below(20); return same("tick " + n, 10, x.tick(n), y.tick(n)); }
      case 11: { int w = in(0, 6); return same("state " + w, 11, x.state(w), y.state(w)); }
      case 12: return same("rolled", 12, x.rolled(), y.rolled());
      case 13: { int i = in(0, 20); return same("tenth " + i + " " + what, 13, x.tenth(i, what), y.tenth(i, what)); }
      case 14: return same("lasts " + p + " " + v + " " + f + " " + what, 14, x.lasts(p, v, f, what), y.lasts(p, v, f, what));
      case 15: { int t = below(3) == 0 ? in(0, 9999) : below(50); return same("rules " + t, 15, x.rules(t), y.rules(t)); }
      case 16: return same("passes", 16, x.passes(), y.passes());
      case 17: { int t = tone(); return same("heard " + t, 17, x.heard(t), y.heard(t)); }
      case 18: return below(4) > 0 || same("hush", 18, x.hush(), y.hush());
      case 19: { int w = in(0, 999); return same("slip " + w, 19, x.slip(w), y.slip(w)); }
      default: return callMore(random.nextInt(16), what, p, q, f, v);
    }
  }

  private boolean callMore(int kind, int what, int p, int q, int f, int v) {
    int s = set();
    switch (kind) {
      case 0: return same("firstOff " + s, 20, x.firstOff(s), y.firstOff(s));
      case 1: return below(3) > 0 || same("supposed " + what, 21, x.supposed(what), y.supposed(what));
      case 2: { int a = in(0, 4); int t = below(2) == 0 ? p : f; return same("ahead " + a + " " + s + " " + t, 22, x.ahead(a, s, t), y.ahead(a, s, t)); }
      case 3: { int o = set(); return same("parts " + s + " " + o + " " + p + " " + f + " " + what, 23, x.parts(s, o, p, f, what), y.parts(s, o, p, f, what)); }
      case 4: { int w = in(0, 999); return same("longest " + w + " " + v + " " + f, 24, x.longest(w, v, f), y.longest(w, v, f)); }
      case 5: return same("bestFor " + p + " " + v + " " + what, 25, x.bestFor(p, v, what), y.bestFor(p, v, what));
      case 6: { int w = in(0, 2); return same("ear " + w, 26, x.ear(w), y.ear(w)); }
      case 7: return below(3) > 0 || same("stagger " + q, 27, x.stagger(q), y.stagger(q));
      case 8: { int t = below(3) == 0 ? in(0, 9999) : below(30); return same("trust " + t, 28, x.trust(t), y.trust(t)); }
      case 9: { int t = below(3) == 0 ? in(1, 999) : 1 + below(20); return same("leg " + f + " " + t, 29, x.leg(f, t), y.leg(f, t)); }
      case 10: return same("legs " + p + " " + v, 30, x.legs(p, v), y.legs(p, v));
      case 11: return draws(what, p, f);
      case 12: return below(3) > 0 || same("image", 32, x.image(), y.image());
      case 13: return below(3) > 0 || same("restore", 33, x.restore(), y.restore());
      default: { int w = in(0, 17); return same("count " + w, 34, x.count(w), y.count(w)); }
    }
  }

  private boolean feedSome() {
    int n = in(1, 8);
    long bytes = random.nextLong();
    return same("feed(" + n + ", " + bytes + "L)", 0, x.feed(n, bytes), y.feed(n, bytes));
  }

  private boolean newPlate() {
    return (below(9) == 0 || feed(plateText())) && same("plate", 1, x.plate(), y.plate());
  }

  private boolean newLoss() {
    int kind = below(20) == 0 ? in(0, 6) : below(7);
    int from = below(3) == 0 ? in(0, 9999) : below(60);
    int to = below(3) == 0 ? in(0, 9999) : from + below(100);
    String call = "loss(" + kind + ", " + from + ", " + to + ")";
    return (below(9) == 0 || feed(lawText())) && same(call, 3, x.loss(kind, from, to), y.loss(kind, from, to));
  }

  private boolean draws(int what, int p, int f) {
    if (below(3) > 0) {
      return true;
    }
    int n = below(4) > 0 ? 1 + below(5) : in(1, 30);
    int z = random.nextInt();
    int m = below(3) == 0 ? in(0, 9999) : below(100);
    String call = "draws " + p + " " + f + " " + n + " " + z + " " + m + " " + what;
    return same(call, 31, x.draws(p, f, n, z, m, what), y.draws(p, f, n, z, m, what));
  }
}
