/** Boundary cases of LAWS and KINDS (part I of the Terms; promises 5 and 10), each under the document's own words. */
public final class LawBoundariesTest {
  public static void main(String[] args) {
    sums();
    products();
    cutTowardZero();
    byZero();
    numbers();
    fields();
    atoms();
    deep();
    asMachinesDo();
    held();
    faults();
    airKind();
    ring();
    rolling();
    sliding();
    leaping();
    floored();
    ringing();
    early();
    Check.end();
  }

  /** Of a plate "w300d70e3h2b4" on a floor of HARD 8, TILT 6. */
  private static void takes(String law, int lean, int want) {
    PlateRings x = new PlateRings();
    Check.plate(x, "w300d70e3h2b4");
    x.floor(0, 0, 8);
    x.floor(0, 1, 6);
    Check.due("loss " + law, Check.rolling(x, law), 0);
    Check.due("takes by " + law + " at " + lean, x.takes(0, 0, lean, 0, 0), want);
  }

  private static void noLaw(String law, int place) {
    PlateRings x = new PlateRings();
    Check.due("loss " + law, Check.rolling(x, law), -20 - place);
    Check.due("losses behind " + law, x.count(1), 0);
    Check.due("bytes behind " + law, x.count(5), 0);
    Check.due("refusals behind " + law, Check.refused(x), 0);
  }

  private static void sums() {
    Check.by("SUM: PRODUCT, and any of + PRODUCT, - PRODUCT behind it.");
    takes("7", 0, 7);
    takes("9-1-1-1-1-1-1-1-1-1", 0, 0);
    takes("99-1-1-1-1-1-1-1-1-1", 0, 90);
    takes("9-5+3", 0, 7);
    takes("9-(5+3)", 0, 1);
    takes("1+1+1+1+1+1+1+1+1+11", 0, 20);
    noLaw("+7", 0);
    noLaw("-7", 0);
    noLaw("7+", 2);
    noLaw("7-", 2);
    noLaw("7+-7", 2);
    noLaw("7--7", 2);
  }

  private static void products() {
    Check.by("PRODUCT: ATOM, and any of * ATOM, / ATOM behind it");
    takes("2*3*4", 0, 24);
    takes("100/5/4*3", 0, 15);
    takes("100/(5*4)*3", 0, 15);
    takes("7/2*2", 0, 6);
    takes("2+3*4-6/3", 0, 12);
    takes("1*1*1*1*1*1*1*1*1*99", 0, 99);
    noLaw("*7", 0);
    noLaw("/7", 0);
    noLaw("7*", 2);
    noLaw("7/", 2);
    noLaw("7*/7", 2);
    noLaw("7*-7", 2);
  }

  private static void cutTowardZero() {
    Check.by("(/ cut toward 0;");
    takes("7/2", 0, 3);
    takes("9+(0-7)/2", 0, 6);
    takes("9+7/(0-2)", 0, 6);
    takes("9+(0-7)/(0-2)", 0, 12);
    takes("9+(0-1)/2", 0, 9);
  }

  private static void byZero() {
    Check.by("by 0: 0).");
    takes("7/0", 0, 0);
    takes("0/0", 0, 0);
    takes("7/l", 0, 0);
    takes("7/l", 1, 7);
    takes("7/0+5", 0, 5);
    takes("7/0*5+2", 0, 2);
    takes("8/(7/9)+3", 0, 3);
    takes("7/t", 9000, 0);
    takes("(0-7)/0+9", 0, 9);
  }

  private static void numbers() {
    Check.by("a NUMBER of 1 to 3 digits without 0 ahead of others");
    takes("0", 0, 0);
    takes("9", 0, 9);
    takes("10", 0, 10);
    takes("100", 0, 100);
    takes("999", 0, 999);
    takes("0+0", 0, 0);
    noLaw("1000", 3);
    noLaw("9999", 3);
    noLaw("01", 1);
    noLaw("00", 1);
    noLaw("000", 1);
    noLaw("5+01", 3);
    noLaw("(0001)", 2);
    noLaw("5+1000", 5);
  }

  private static void fields() {
    Check.by("a field: l LEAN, t TONE, w WEIGHT, d WIDTH, e EDGE, b DISH, f the FLOOR's HARD, k the FLOOR's TILT.");
    takes("l", 0, 0);
    takes("l", 9000, 9000);
    takes("t", 0, 900 * 104 / 17);
    takes("t", 9000, 0);
    takes("w", 5, 300);
    takes("d", 5, 70);
    takes("e", 5, 3);
    takes("b", 5, 4);
    takes("f", 5, 8);
    takes("k", 5, 6);
    for (char c = 0; c < 256; c++) {
      if ("ltwdebfk0123456789".indexOf(c) < 0) {
        noLaw("" + c, c == '(' ? 1 : 0);
      }
    }
    noLaw("lt", 1);
    noLaw("l5", 1);
    noLaw("5l", 1);
  }

  private static void atoms() {
    Check.by("ATOM: \"(\" SUM \")\";");
    takes("(7)", 0, 7);
    takes("(2+3)*(4-1)", 0, 15);
    takes("9-(5-(3-1))", 0, 6);
    takes("((2))", 0, 2);
    takes("9/(l)", 0, 0);
    noLaw("(", 1);
    noLaw("()", 1);
    noLaw("(+)", 1);
    noLaw("(7", 2);
    noLaw("(7+", 3);
    noLaw("7)", 1);
    noLaw("(7)(", 3);
    noLaw("(7))", 3);
    noLaw("[7]", 0);
  }

  private static void deep() {
    Check.by("( 4 deep at most.");
    takes("(l)", 7, 7);
    takes("((((l))))", 7, 7);
    takes("((((1))))+((((l))))", 7, 8);
    takes("(l)+(l)+(l)+(l)+(l)", 7, 35);
    takes("((l)+(l)*(l)+((l)))", 7, 63);
    Check.by("(of a fifth open bracket its own place)");
    noLaw("(((((l)))))", 4);
    noLaw("(((((", 4);
    noLaw("(((((?", 4);
    noLaw("((((l+(t", 6);
    noLaw("l+((((l*(t)))))", 8);
    noLaw("((((((((((((((((((((", 4);
    noLaw("((((", 4);
    noLaw("((((l)))", 8);
    noLaw("((((l)))))", 9);
    noLaw("((((l))))(", 9);
    noLaw("()", 1);
    noLaw("(l", 2);
    noLaw(")", 0);
    noLaw("(l+)", 3);
  }

  private static void asMachinesDo() {
    Check.by("All in 32 bits, as machines do;");
    // 8192 times itself is 2 to the 26th: 31 of it are still above 0, 32 are the least int.
    takes("l*l*31", 8192, 9999);
    takes("l*l*32", 8192, 0);
    takes("l*l*32-1", 8192, 9999);
    takes("l*l*64", 8192, 0);
    takes("l*l*64+5", 8192, 5);
    takes("l*l*63", 8192, 0);
    takes("l*l*65/w", 8192, 9999);
    takes("l*l*32/(0-1)", 8192, 0);
    takes("l*l*32/(0-1)-1", 8192, 9999);
    takes("9+l*l*32/999/999/999", 8192, 7);
    takes("0-l*l*32", 8192, 0);
    takes("0-l*l*32-1", 8192, 9999);
    takes("l*l*31+l*l", 8192, 0);
    takes("999*999*999*999", 0, 999 * 999 * 999 * 999 > 0 ? 9999 : 0);
    takes("999*999*999/99/99/99", 0, Math.max(0, 999 * 999 * 999 / 99 / 99 / 99));
  }

  private static void held() {
    Check.by("what comes is held to 0 .. 9999.");
    takes("3-4", 0, 0);
    takes("3-3", 0, 0);
    takes("4-3", 0, 1);
    takes("l+999", 9000, 9999);
    takes("l+998", 9000, 9998);
    takes("l+999+1", 9000, 9999);
    takes("l*l", 9000, 9999);
    takes("(l+l)/2", 9000, 9000);
    takes("5+(3-9)", 0, 0);
    takes("9+(3-9)", 0, 3);
  }

  private static void faults() {
    Check.by("FAULT likewise");
    noLaw("", 0);
    noLaw("l+*2", 2);
    noLaw("l//2", 2);
    noLaw("l(5)", 1);
    noLaw("5(l)", 1);
    noLaw("(l)l", 3);
    noLaw("(l)5", 3);
    noLaw("(5)(l)", 3);
    noLaw("l l", 1);
    noLaw("l ", 1);
    noLaw(" l", 0);
    noLaw("L", 0);
    noLaw("l+h", 2);
    noLaw("l" + (char) 0, 1);
    noLaw("l" + (char) 171, 1);
    noLaw("1+1+1+1+1+1+1+1+1+1?", 19);
  }

  /** One loss "17" of a kind, FROM 20 TO 30, and plates: plain, a ring by one, no ring by one. */
  private static PlateRings ofKind(int kind) {
    PlateRings x = Check.plain();
    Check.plate(x, "w1d1h5");
    Check.plate(x, "w1d1h4");
    Check.plate(x, "w1d1h9");
    Check.loss(x, "17", kind, 20, 30);
    return x;
  }

  private static void airKind() {
    Check.by("0 AIR: by its LAW while AIR is on; of a RING half, cut.");
    PlateRings x = ofKind(0);
    Check.due("on", x.takes(0, 0, 5, 0, 0), 17);
    Check.due("of a RING", x.takes(0, 1, 5, 0, 0), 8);
    x.air(false);
    Check.due("off", x.takes(0, 0, 5, 0, 0), 0);
    Check.due("off, of a RING", x.takes(0, 1, 5, 0, 0), 0);
    PlateRings y = Check.plain();
    Check.plate(y, "w1d1h5");
    Check.loss(y, "l", 0, 0, 0);
    Check.due("half of 1", y.takes(0, 1, 1, 0, 0), 0);
    Check.due("half of 2", y.takes(0, 1, 2, 0, 0), 1);
    Check.due("half of 0", y.takes(0, 1, 0, 0, 0), 0);
    Check.loss(y, "l*l", 0, 0, 0);
    Check.due("half of what is held to 9999", y.takes(1, 1, 9000, 0, 0), 4999);
    Check.loss(y, "3-9", 0, 0, 0);
    Check.due("half of what is held to 0", y.takes(2, 1, 9000, 0, 0), 0);
  }

  private static void ring() {
    Check.by("A RING is a PLATE with HOLE 5 or more.");
    PlateRings x = ofKind(0);
    Check.due("HOLE 0", x.takes(0, 0, 5, 0, 0), 17);
    Check.due("HOLE 4", x.takes(0, 2, 5, 0, 0), 17);
    Check.due("HOLE 5", x.takes(0, 1, 5, 0, 0), 8);
    Check.due("HOLE 9", x.takes(0, 3, 5, 0, 0), 8);
    for (int kind = 1; kind <= 6; kind++) {
      PlateRings y = ofKind(kind);
      y.floor(0, 0, 0);
      Check.due("no half but of AIR: " + kind, y.takes(0, 1, 5, 0, 25), 17);
    }
  }

  private static void rolling() {
    Check.by("1 ROLLING: by its LAW.");
    PlateRings x = ofKind(1);
    x.air(false);
    for (int tick : new int[] {0, 19, 20, 30, 31, 9999}) {
      Check.due("in TICK " + tick, x.takes(0, 0, 9000, 0, tick), 17);
    }
    Check.due("more than there is", x.takes(0, 0, 0, 0, 0), 17);
  }

  private static void sliding() {
    Check.by("2 SLIDING under ROLLING: while TONE is 100 or more.");
    PlateRings x = ofKind(2);
    Check.due("TONE", x.toneAt(0, 890), 100);
    Check.due("TONE 100", x.takes(0, 0, 890, 0, 0), 17);
    Check.due("TONE 90", x.takes(0, 0, 891, 0, 0), 0);
    Check.due("TONE 9000", x.takes(0, 0, 0, 0, 0), 17);
    Check.due("TONE 0", x.takes(0, 0, 9000, 0, 0), 0);
    Check.plate(x, "w1d99b9");
    Check.due("another's TONE", x.toneAt(4, 490), 103);
    Check.due("TONE 103", x.takes(0, 4, 490, 0, 0), 17);
    Check.due("another's TONE", x.toneAt(4, 491), 97);
    Check.due("TONE 97", x.takes(0, 4, 491, 0, 0), 0);
    PlateRings y = Check.plain();
    Check.plate(y, "w1d70");
    Check.plate(y, "w1d10b9");
    Check.loss(y, "17", 2, 0, 0);
    Check.due("TONE 100", y.toneAt(1, 519), 100);
    Check.due("takes at TONE 100", y.takes(0, 1, 519, 0, 0), 17);
    Check.due("TONE 94", y.toneAt(1, 520), 94);
    Check.due("takes none at TONE 94", y.takes(0, 1, 520, 0, 0), 0);
    Check.due("TONE 99", y.toneAt(2, 809), 99);
    Check.due("takes none at TONE 99", y.takes(0, 2, 809, 0, 0), 0);
  }

  private static void leaping() {
    Check.by("3 LEAPING under ROLLING: while LEAN is below 10 times 9 less EDGE.");
    for (int edge = 0; edge <= 9; edge++) {
      PlateRings x = new PlateRings();
      Check.plate(x, "w1d1e" + edge);
      Check.loss(x, "17", 3, 0, 0);
      int bound = 10 * (9 - edge);
      Check.due("EDGE " + edge + " at " + bound, x.takes(0, 0, bound, 0, 0), 0);
      Check.due("EDGE " + edge + " above " + bound, x.takes(0, 0, bound + 1, 0, 0), 0);
      if (bound > 0) {
        Check.due("EDGE " + edge + " below " + bound, x.takes(0, 0, bound - 1, 0, 0), 17);
        Check.due("EDGE " + edge + " at 0", x.takes(0, 0, 0, 0, 0), 17);
      }
    }
  }

  private static void floored() {
    Check.by("4 FLOORED under ROLLING: by its LAW times 9 less HARD, by 9, cut.");
    PlateRings x = ofKind(4);
    for (int hard = 0; hard <= 9; hard++) {
      x.floor(3, 0, hard);
      Check.due("HARD " + hard, x.takes(0, 0, 5, 3, 0), 17 * (9 - hard) / 9);
      Check.due("another FLOOR", x.takes(0, 0, 5, 2, 0), 0);
    }
    PlateRings y = Check.plain();
    Check.loss(y, "l*l", 4, 0, 0);
    y.floor(0, 0, 0);
    Check.due("9999 on HARD 0", y.takes(0, 0, 9000, 0, 0), 9999);
    y.floor(0, 0, 8);
    Check.due("9999 on HARD 8", y.takes(0, 0, 9000, 0, 0), 1111);
    Check.due("8 on HARD 8", y.takes(0, 0, 2, 0, 0), 0);
    Check.due("9 on HARD 8", y.takes(0, 0, 3, 0, 0), 1);
  }

  private static void ringing() {
    Check.by("5 RINGING under AIR: whether or not AIR is on, not of a RING's half.");
    PlateRings x = ofKind(5);
    Check.due("on", x.takes(0, 0, 5, 0, 0), 17);
    Check.due("on, of a RING", x.takes(0, 1, 5, 0, 0), 17);
    x.air(false);
    Check.due("off", x.takes(0, 0, 5, 0, 0), 17);
    Check.due("off, of a RING", x.takes(0, 1, 5, 0, 0), 17);
  }

  private static void early() {
    Check.by("6 EARLY under ROLLING: in TICKS FROM to TO (both in) alone, all others in any TICK.");
    PlateRings x = ofKind(6);
    int[] ticks = {0, 19, 20, 25, 30, 31, 9999};
    int[] want = {0, 0, 17, 17, 17, 0, 0};
    for (int i = 0; i < ticks.length; i++) {
      Check.due("in TICK " + ticks[i], x.takes(0, 0, 5, 0, ticks[i]), want[i]);
    }
    Check.loss(x, "18", 6, 0, 0);
    Check.due("in TICK 0 alone", x.takes(1, 0, 5, 0, 0), 18);
    Check.due("in TICK 1", x.takes(1, 0, 5, 0, 1), 0);
    Check.loss(x, "19", 6, 9999, 9999);
    Check.due("in TICK 9998", x.takes(2, 0, 5, 0, 9998), 0);
    Check.due("in TICK 9999", x.takes(2, 0, 5, 0, 9999), 19);
    for (int kind = 0; kind < 6; kind++) {
      PlateRings y = ofKind(kind);
      y.floor(0, 0, 0);
      Check.due("ahead of FROM: " + kind, y.takes(0, 0, 5, 0, 0), 17);
      Check.due("behind TO: " + kind, y.takes(0, 0, 5, 0, 9999), 17);
    }
  }
}
