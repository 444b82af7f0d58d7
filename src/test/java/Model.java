import java.util.ArrayList;
import java.util.List;

/**
 * A second reading of the document, written apart from the class and as plainly as can be:
 * laws are read anew each time they are asked, and every spin in mind is a new one.
 */
final class Model {
  static final class Fault extends RuntimeException {
    private static final long serialVersionUID = 1L;
    final int place;

    Fault(int place) {
      this.place = place;
    }
  }

  static final class Law {
    final String text;
    final java.util.Map<Character, Integer> fields;
    int at = 0;

    Law(String text, java.util.Map<Character, Integer> fields) {
      this.text = text;
      this.fields = fields;
    }

    int whole() {
      int v = sum(0);
      if (at < text.length()) {
        throw new Fault(at);
      }
      return Math.max(0, Math.min(9999, v));
    }

    boolean sees(char c) {
      return at < text.length() && text.charAt(at) == c;
    }

    int sum(int deep) {
      int v = product(deep);
      while (sees('+') || sees('-')) {
        boolean plus = text.charAt(at++) == '+';
        int w = product(deep);
        v = plus ? v + w : v - w;
      }
      return v;
    }

    int product(int deep) {
      int v = atom(deep);
      while (sees('*') || sees('/')) {
        boolean times = text.charAt(at++) == '*';
        int w = atom(deep);
        v = times ? v * w : w == 0 ? 0 : v / w;
      }
      return v;
    }

    int atom(int deep) {
      if (sees('(')) {
        if (deep == 4) {
          throw new Fault(at);
        }
        at++;
        int v = sum(deep + 1);
        if (!sees(')')) {
          throw new Fault(at);
        }
        at++;
        return v;
      }
      java.util.regex.Matcher m = java.util.regex.Pattern.compile("0|[1-9][0-9]{0,2}").matcher(text);
      if (m.region(at, text.length()).lookingAt()) {
        at = m.end();
        return Integer.parseInt(m.group());
      }
      if (at >= text.length() || !fields.containsKey(text.charAt(at))) {
        throw new Fault(at);
      }
      return fields.get(text.charAt(at++));
    }
  }

  record Plate(int weight, int width, int edge, int hole, int dish) {
    int tone(int lean) {
      return 9000 / (lean + 10) * (100 + dish) / (10 + width / 10);
    }

    static Plate read(String s) {
      int[] v = new int[5];
      int at = 0;
      for (int i = 0; i < 5; i++) {
        char name = "wdehb".charAt(i);
        if (at >= s.length() || s.charAt(at) != name) {
          if (i < 2) {
            throw new Fault(at);
          }
          continue;
        }
        at++;
        java.util.regex.Matcher m = java.util.regex.Pattern.compile("0|[1-9][0-9]{0,2}").matcher(s);
        if (!m.region(at, s.length()).lookingAt()) {
          throw new Fault(at);
        }
        v[i] = Integer.parseInt(m.group());
        if (i < 2 && v[i] == 0 || v[i] > new int[] {999, 99, 9, 9, 9}[i]) {
          throw new Fault(at);
        }
        at = m.end();
      }
      if (at < s.length()) {
        throw new Fault(at);
      }
      return new Plate(v[0], v[1], v[2], v[3], v[4]);
    }
  }

  record Loss(int kind, int from, int to, String law) { }

  record Leg(int floor, int ticks) { }

  static final class Spin implements Cloneable {
    Plate plate;
    int number;
    int first;
    int lean;
    int floor;
    int tick;
    int end;
    int step = 1;
    long rolled;
    boolean air;
    List<Loss> losses = new ArrayList<>();
    List<Leg> legs = new ArrayList<>();
    List<Integer> takes = new ArrayList<>();
    List<int[]> tenths = new ArrayList<>();
    int[] took = new int[9];

    int tone() {
      return plate.tone(lean);
    }

    Spin copy() {
      Spin s = new Spin();
      s.plate = plate;
      s.number = number;
      s.first = first;
      s.lean = lean;
      s.floor = floor;
      s.tick = tick;
      s.end = end;
      s.rolled = rolled;
      s.tenths.addAll(tenths);
      s.took = took.clone();
      return s;
    }
  }

  List<Plate> plates = new ArrayList<>();
  List<Loss> losses = new ArrayList<>();
  int[][] floors = {{9, 0}, {9, 0}, {9, 0}, {9, 0}};
  boolean air = true;
  Spin the;
  List<Integer> row = new ArrayList<>();
  int slip;
  List<Leg> legs = new ArrayList<>();
  Model image;
  String text = "";
  int[] refusals = new int[7];

  private int no(int number) {
    refusals[-number]++;
    return number;
  }

  int feed(int n, long bytes) {
    if (n < 1) return no(-4);
    if (n > 8 || text.length() + n > 20) return no(-6);
    for (int i = 0; i < n; i++) {
      text += (char) (bytes & 255);
      bytes >>= 8;
    }
    return text.length();
  }

  int plate() {
    if (plates.size() == 6) return no(-6);
    String s = text;
    text = "";
    try {
      plates.add(Plate.read(s));
    } catch (Fault f) {
      return -20 - f.place;
    }
    return plates.size() - 1;
  }

  private boolean noPlate(int i) {
    return i < 0 || i >= plates.size();
  }

  private boolean noLoss(int i) {
    return i < 0 || i >= losses.size();
  }

  private static boolean noFloor(int i) {
    return i < 0 || i > 3;
  }

  private boolean noSet(int set) {
    return set < 0 || set >= 1 << losses.size();
  }

  private static boolean noWhat(int what) {
    return what < 0 || what > 1;
  }

  int plateOf(int plate, int what) {
    if (noPlate(plate)) return no(-1);
    if (what < 0 || what > 4) return no(-2);
    Plate p = plates.get(plate);
    return new int[] {p.weight, p.width, p.edge, p.hole, p.dish}[what];
  }

  private java.util.Map<Character, Integer> fields(Plate p, int lean, int floor) {
    java.util.Map<Character, Integer> m = new java.util.HashMap<>();
    m.put('l', lean);
    m.put('t', p.tone(lean));
    m.put('w', p.weight);
    m.put('d', p.width);
    m.put('e', p.edge);
    m.put('b', p.dish);
    m.put('f', floors[floor][0]);
    m.put('k', floors[floor][1]);
    return m;
  }

  int loss(int kind, int from, int to) {
    if (kind < 0 || kind > 6) return no(-1);
    if (from < 0 || to < 0) return no(-4);
    if (from > 9999 || to > 9999 || losses.size() == 8) return no(-6);
    if (kind == 6 && from > to) return no(-3);
    String s = text;
    text = "";
    try {
      new Law(s, fields(new Plate(1, 1, 1, 1, 1), 1, 1)).whole();
    } catch (Fault f) {
      return -20 - f.place;
    }
    losses.add(new Loss(kind, from, to, s));
    return losses.size() - 1;
  }

  int lossOf(int loss, int what) {
    if (noLoss(loss)) return no(-1);
    if (what < 0 || what > 3) return no(-2);
    Loss x = losses.get(loss);
    return new int[] {x.kind, x.from, x.to, the == null ? 0 : the.took[loss]}[what];
  }

  int floor(int floor, int what, int v) {
    if (noFloor(floor)) return no(-1);
    if (noWhat(what)) return no(-2);
    if (v < 0) return no(-4);
    if (v > 9) return no(-6);
    int was = floors[floor][what];
    floors[floor][what] = v;
    return was;
  }

  int air(boolean is) {
    boolean was = air;
    air = is;
    return was == is ? 0 : 1;
  }

  int toneAt(int plate, int lean) {
    if (noPlate(plate)) return no(-1);
    if (lean < 0) return no(-4);
    if (lean > 9000) return no(-6);
    return plates.get(plate).tone(lean);
  }

  private int take(Loss x, Plate p, int lean, int floor, int tick, boolean air) {
    int law = new Law(x.law, fields(p, lean, floor)).whole();
    if (x.kind == 0) return air ? p.hole >= 5 ? law / 2 : law : 0;
    if (x.kind == 2 && p.tone(lean) < 100) return 0;
    if (x.kind == 3 && lean >= 10 * (9 - p.edge)) return 0;
    if (x.kind == 4) return law * (9 - floors[floor][0]) / 9;
    if (x.kind == 6 && (tick < x.from || tick > x.to)) return 0;
    return law;
  }

  int takes(int loss, int plate, int lean, int floor, int tick) {
    if (noLoss(loss) || noPlate(plate) || noFloor(floor)) return no(-1);
    if (lean < 0 || tick < 0) return no(-4);
    if (lean > 9000 || tick > 9999) return no(-6);
    return take(losses.get(loss), plates.get(plate), lean, floor, tick, air);
  }

  private Spin fresh(Plate p, int lean, int floor) {
    Spin s = new Spin();
    s.plate = p;
    s.first = lean;
    s.lean = lean;
    s.floor = floor;
    s.air = air;
    s.losses.addAll(losses);
    s.tenths.add(new int[] {lean, s.tone()});
    return s;
  }

  private Spin again(int set) {
    Spin s = fresh(the.plate, the.first, the.floor);
    for (int i = losses.size() - 1; i >= 0; i--) {
      if ((set >> i & 1) == 0) {
        s.losses.remove(i);
      }
    }
    return s;
  }

  private int floorOf(Spin s) {
    int gone = 0;
    for (Leg g : s.legs) {
      gone += g.ticks;
      if (s.tick < gone) {
        return g.floor;
      }
    }
    return s.legs.isEmpty() ? s.floor : s.legs.get(s.legs.size() - 1).floor;
  }

  private void one(Spin s) {
    s.takes.clear();
    int all = 0;
    boolean leapt = false;
    for (Loss x : s.losses) {
      int v = take(x, s.plate, s.lean, floorOf(s), s.tick, s.air);
      s.takes.add(v);
      all += v * s.step;
      leapt |= x.kind == 3 && v > 0;
    }
    int left = s.lean;
    for (int i = 0; i < s.takes.size(); i++) {
      int part = Math.min(left, s.takes.get(i));
      s.took[i] += part;
      left -= part;
    }
    s.rolled += s.tone();
    s.lean = Math.max(0, s.lean - all);
    s.tick += s.step;
    s.end = s.lean == 0 ? 1 : leapt ? 2 : all == 0 ? 3 : s.tick >= 9999 ? 4 : 0;
    if (s.tick % 10 == 0 && s.tenths.size() < 100) {
      s.tenths.add(new int[] {s.lean, s.tone()});
    }
  }

  private Spin through(Spin s) {
    while (s.end == 0) {
      one(s);
    }
    return s;
  }

  int spin(int plate, int lean, int floor) {
    if (noPlate(plate) || noFloor(floor)) return no(-1);
    if (lean < 0) return no(-4);
    if (lean > 9000) return no(-6);
    the = fresh(plates.get(plate), lean, floor);
    the.number = plate;
    return the.tone();
  }

  int tick(int n) {
    if (the == null) return no(-3);
    if (n < 1) return no(-4);
    if (n > 999) return no(-6);
    the.air = air;
    the.losses = new ArrayList<>(losses);
    while (n-- > 0 && the.end == 0) {
      one(the);
    }
    return the.end;
  }

  int state(int what) {
    if (the == null) return no(-3);
    if (what < 0 || what > 6) return no(-2);
    return new int[] {the.number, the.lean, the.tone(), the.tick, the.end, the.floor, the.tenths.size()}[what];
  }

  long rolled() {
    return the == null ? no(-3) : the.rolled;
  }

  int tenth(int i, int what) {
    if (noWhat(what)) return no(-2);
    if (the == null) return no(-3);
    if (i < 0) return no(-4);
    return i < the.tenths.size() ? the.tenths.get(i)[what] : -9;
  }

  int lasts(int plate, int lean, int floor, int what) {
    if (noPlate(plate) || noFloor(floor)) return no(-1);
    if (noWhat(what)) return no(-2);
    if (lean < 0) return no(-4);
    if (lean > 9000) return no(-6);
    Spin s = through(fresh(plates.get(plate), lean, floor));
    return what == 0 ? s.tick : s.end;
  }

  private List<Integer> rulers() {
    List<Integer> rulers = new ArrayList<>();
    Spin s = again(-1);
    while (s.end == 0) {
      one(s);
      int most = s.takes.isEmpty() ? 0 : java.util.Collections.max(s.takes);
      rulers.add(most == 0 ? -9 : s.takes.indexOf(most));
    }
    return rulers;
  }

  int rules(int tick) {
    if (the == null) return no(-3);
    if (tick < 0) return no(-4);
    if (tick > 9999) return no(-6);
    List<Integer> rulers = rulers();
    return tick < rulers.size() ? rulers.get(tick) : -9;
  }

  int passes() {
    if (the == null) return no(-3);
    List<Integer> rulers = rulers();
    for (int i = 0; i < rulers.size(); i++) {
      if (rulers.get(i) != -9 && !rulers.get(i).equals(rulers.get(0))) {
        return i;
      }
    }
    return -9;
  }

  int heard(int tone) {
    if (tone < -1) return no(-4);
    if (tone > 99999 || row.size() == 24) return no(-6);
    row.add(tone);
    return row.size();
  }

  int hush() {
    int had = row.size();
    row.clear();
    return had;
  }

  int slip(int v) {
    if (v < 0) return no(-4);
    if (v > 999) return no(-6);
    int was = slip;
    slip = v;
    return was;
  }

  private int misfit(Spin s) {
    through(s);
    for (int i = 0; i < row.size(); i++) {
      if (row.get(i) >= 0 && (i >= s.tenths.size() || Math.abs(s.tenths.get(i)[1] - row.get(i)) > slip)) {
        return i;
      }
    }
    return -9;
  }

  int firstOff(int set) {
    if (noSet(set)) return no(-1);
    if (the == null) return no(-3);
    return misfit(again(set));
  }

  int supposed(int what) {
    if (noWhat(what)) return no(-2);
    if (the == null) return no(-3);
    List<Integer> sets = new ArrayList<>();
    for (int set = 0; set < 1 << losses.size(); set++) {
      if (misfit(again(set)) == -9) {
        sets.add(set);
      }
    }
    return what == 0 ? sets.size()
        : sets.stream().min(java.util.Comparator.comparing((Integer s) -> Integer.bitCount(s) * 1000 + s)).orElse(-9);
  }

  private int aheadOf(int attempt, int set, int plate, int floor) {
    Spin s = again(set);
    if (attempt == 1) s.air = !s.air;
    if (attempt == 2) s.plate = plates.get(plate);
    if (attempt == 3) s.floor = floor;
    if (attempt == 4) s.lean /= 2;
    return through(s).tick;
  }

  int ahead(int attempt, int set, int told) {
    if (noSet(set) || attempt == 2 && noPlate(told) || attempt == 3 && noFloor(told)) return no(-1);
    if (attempt < 0 || attempt > 4) return no(-2);
    if (the == null) return no(-3);
    return aheadOf(attempt, set, told, told);
  }

  int parts(int one, int other, int plate, int floor, int what) {
    if (noSet(one) || noSet(other) || noPlate(plate) || noFloor(floor)) return no(-1);
    if (noWhat(what)) return no(-2);
    if (the == null) return no(-3);
    List<Integer> unlike = new ArrayList<>();
    for (int t = 0; t < 5; t++) {
      unlike.add(Math.abs(aheadOf(t, one, plate, floor) - aheadOf(t, other, plate, floor)));
    }
    int most = java.util.Collections.max(unlike);
    return what == 1 ? most : unlike.indexOf(most);
  }

  int longest(int weight, int lean, int floor) {
    if (noFloor(floor)) return no(-1);
    if (weight < 0 || lean < 0) return no(-4);
    if (weight > 999 || lean > 9000) return no(-6);
    List<Integer> ticks = new ArrayList<>();
    for (Plate p : plates) {
      ticks.add(p.weight <= weight ? through(fresh(p, lean, floor)).tick : -9);
    }
    int most = ticks.isEmpty() ? -9 : java.util.Collections.max(ticks);
    return most == -9 ? -9 : ticks.indexOf(most);
  }

  int bestFor(int plate, int lean, int what) {
    if (noPlate(plate)) return no(-1);
    if (noWhat(what)) return no(-2);
    if (lean < 0) return no(-4);
    if (lean > 9000) return no(-6);
    Plate p = plates.get(plate);
    List<Integer> ticks = new ArrayList<>();
    for (int i = 0; i < (what == 0 ? 4 : 10); i++) {
      Plate q = what == 0 ? p : new Plate(p.weight, p.width, i, p.hole, p.dish);
      ticks.add(through(fresh(q, lean, what == 0 ? i : 0)).tick);
    }
    return ticks.indexOf(java.util.Collections.max(ticks));
  }

  int ear(int what) {
    if (what < 0 || what > 2) return no(-2);
    if (the == null) return no(-3);
    List<Integer> sums = new ArrayList<>();
    for (Plate p : plates) {
      Spin s = through(fresh(p, the.first, the.floor));
      int sum = 0;
      for (int i = 0; i < row.size(); i++) {
        if (row.get(i) >= 0) {
          sum += i < s.tenths.size() ? Math.abs(s.tenths.get(i)[1] - row.get(i)) : 99999;
        }
      }
      sums.add(sum);
    }
    if (sums.isEmpty()) return -9;
    int least = java.util.Collections.min(sums);
    return what == 0 ? sums.indexOf(least) : what == 2 ? least : least > slip * count(3) ? 1 : 0;
  }

  int stagger(int loss) {
    if (noLoss(loss)) return no(-1);
    if (the == null) return no(-3);
    for (int t = 0; t <= 990; t += 10) {
      Spin s = again(-1);
      s.losses.add(new Loss(6, t, 9999, losses.get(loss).law));
      if (misfit(s) == -9) {
        return t;
      }
    }
    return -9;
  }

  int trust(int ticks) {
    if (the == null) return no(-3);
    if (ticks < 0) return no(-4);
    if (ticks > 9999) return no(-6);
    int best = 1;
    int due = through(again(-1)).tick;
    for (int step : new int[] {2, 5, 10}) {
      Spin s = again(-1);
      s.step = step;
      if (Math.abs(through(s).tick - due) <= ticks) {
        best = step;
      }
    }
    return best;
  }

  int leg(int floor, int ticks) {
    if (noFloor(floor)) return no(-1);
    if (ticks < 1) return no(-4);
    if (ticks > 999 || legs.size() == 4) return no(-6);
    legs.add(new Leg(floor, ticks));
    return legs.size();
  }

  int legs(int plate, int lean) {
    if (noPlate(plate)) return no(-1);
    if (lean < 0) return no(-4);
    if (lean > 9000) return no(-6);
    if (legs.isEmpty()) return no(-3);
    Spin s = fresh(plates.get(plate), lean, 0);
    s.legs.addAll(legs);
    legs.clear();
    return through(s).tick;
  }

  int draws(int plate, int floor, int n, int z, int m, int what) {
    if (noPlate(plate) || noFloor(floor)) return no(-1);
    if (noWhat(what)) return no(-2);
    if (n < 1 || m < 0) return no(-4);
    if (n > 30 || m > 9999) return no(-6);
    int found = 0;
    while (n-- > 0) {
      z = z * 1103515245 + 12345;
      int lean = 1 + (z & 0x7fffffff) / 65536 % 9000;
      Spin s = through(fresh(plates.get(plate), lean, floor));
      found += (what == 0 ? s.tick >= m : s.end == 2) ? 1 : 0;
    }
    return found;
  }

  private static void copy(Model from, Model to) {
    to.plates = new ArrayList<>(from.plates);
    to.losses = new ArrayList<>(from.losses);
    for (int i = 0; i < 4; i++) {
      to.floors[i] = from.floors[i].clone();
    }
    to.air = from.air;
    to.the = from.the == null ? null : from.the.copy();
    to.row = new ArrayList<>(from.row);
    to.slip = from.slip;
    to.legs = new ArrayList<>(from.legs);
  }

  int image() {
    image = new Model();
    copy(this, image);
    return plates.size();
  }

  int restore() {
    if (image == null) return no(-3);
    copy(image, this);
    return plates.size();
  }

  int count(int what) {
    switch (what) {
      case 0: return plates.size();
      case 1: return losses.size();
      case 2: return row.size();
      case 3: return (int) row.stream().filter(t -> t >= 0).count();
      case 4: return legs.size();
      case 5: return text.length();
      case 6: return air ? 1 : 0;
      default: return what >= 11 && what <= 16 ? refusals[what - 10] : -9;
    }
  }
}
