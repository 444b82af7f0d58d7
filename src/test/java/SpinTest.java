/** Promises 9 to 18: toneAt, takes, spin, tick, state, rolled, tenth, lasts, rules, passes. */
public final class SpinTest {
  public static void main(String[] args) {
    toneAt();
    takesByKind();
    takesRefusals();
    spin();
    tick();
    ends();
    parts();
    changes();
    state();
    rolled();
    tenths();
    tenthsRoom();
    lasts();
    rules();
    passes();
    Check.end();
  }

  private static void toneAt() {
    PlateRings x = Check.plain();
    Check.plate(x, "w5d70e3b4");
    Check.plate(x, "w5d99b9");
    Check.plate(x, "w5d9b9");
    Check.plate(x, "w5d10");
    Check.due("plain at 0", x.toneAt(0, 0), 9000);
    Check.due("plain at 890", x.toneAt(0, 890), 100);
    Check.due("plain at 891", x.toneAt(0, 891), 90);
    Check.due("plain at 8990", x.toneAt(0, 8990), 10);
    Check.due("plain at 8991", x.toneAt(0, 8991), 0);
    Check.due("plain at 9000", x.toneAt(0, 9000), 0);
    Check.due("dished at 500", x.toneAt(1, 500), 17 * 104 / 17);
    Check.due("wide at 100", x.toneAt(2, 100), 81 * 109 / 19);
    Check.due("narrow at 0", x.toneAt(3, 0), 9810);
    Check.due("d10 at 0", x.toneAt(4, 0), 900 * 100 / 11);
    Check.due("no plate", x.toneAt(5, -1), -1);
    Check.due("no plate", x.toneAt(-1, 9001), -1);
    Check.due("below", x.toneAt(0, -1), -4);
    Check.due("above", x.toneAt(0, 9001), -6);
    Check.due("refusals", Check.refused(x), 20011);
  }

  private static void takesByKind() {
    PlateRings x = Check.plain();
    Check.plate(x, "w1d1e4h5");
    Check.plate(x, "w1d1e9h4");
    for (int kind = 0; kind < 7; kind++) {
      Check.loss(x, "17", kind, 20, 30);
    }
    Check.due("air", x.takes(0, 0, 5, 0, 0), 17);
    Check.due("air of a ring", x.takes(0, 1, 5, 0, 0), 8);
    Check.due("air of no ring", x.takes(0, 2, 5, 0, 0), 17);
    Check.due("rolling of a ring", x.takes(1, 1, 5, 0, 0), 17);
    Check.due("ringing of a ring", x.takes(5, 1, 5, 0, 0), 17);
    x.air(false);
    Check.due("air off", x.takes(0, 0, 5, 0, 0), 0);
    Check.due("ringing without air", x.takes(5, 0, 5, 0, 0), 17);
    Check.due("rolling without air", x.takes(1, 0, 5, 0, 0), 17);
    Check.due("sliding at tone 100", x.takes(2, 0, 890, 0, 0), 17);
    Check.due("sliding at tone 90", x.takes(2, 0, 891, 0, 0), 0);
    Check.due("leaping below 90", x.takes(3, 0, 89, 0, 0), 17);
    Check.due("leaping at 90", x.takes(3, 0, 90, 0, 0), 0);
    Check.due("leaping, edge 4, below 50", x.takes(3, 1, 49, 0, 0), 17);
    Check.due("leaping, edge 4, at 50", x.takes(3, 1, 50, 0, 0), 0);
    Check.due("leaping, edge 9", x.takes(3, 2, 0, 0, 0), 0);
    Check.due("floored on hard 9", x.takes(4, 0, 5, 0, 0), 0);
    x.floor(2, 0, 5);
    Check.due("floored on hard 5", x.takes(4, 0, 5, 2, 0), 7);
    x.floor(2, 0, 0);
    Check.due("floored on hard 0", x.takes(4, 0, 5, 2, 0), 17);
    Check.due("early ahead", x.takes(6, 0, 5, 0, 19), 0);
    Check.due("early from", x.takes(6, 0, 5, 0, 20), 17);
    Check.due("early to", x.takes(6, 0, 5, 0, 30), 17);
    Check.due("early behind", x.takes(6, 0, 5, 0, 31), 0);
    Check.due("others in any tick", x.takes(5, 0, 5, 0, 9999), 17);
    Check.due("more than there is", x.takes(1, 0, 0, 0, 0), 17);
    PlateRings y = Check.plain();
    Check.loss(y, "l*9", 0, 0, 0);
    Check.loss(y, "l*9", 4, 0, 0);
    Check.plate(y, "w1d1h9");
    y.floor(0, 0, 8);
    Check.due("held to 9999 ahead of its half", y.takes(0, 1, 9000, 0, 0), 4999);
    Check.due("held to 9999 ahead of its ninth", y.takes(1, 0, 9000, 0, 0), 1111);
  }

  private static void takesRefusals() {
    PlateRings x = Check.plain("5");
    Check.due("no loss", x.takes(1, 0, -1, 0, 0), -1);
    Check.due("no loss", x.takes(-1, 0, 5, 0, 0), -1);
    Check.due("no plate", x.takes(0, 1, 5, 0, -1), -1);
    Check.due("no floor", x.takes(0, 0, 5, 4, 10000), -1);
    Check.due("no floor", x.takes(0, 0, 5, -1, 0), -1);
    Check.due("lean below", x.takes(0, 0, -1, 0, 10000), -4);
    Check.due("tick below, lean above", x.takes(0, 0, 9001, 0, -1), -4);
    Check.due("lean above", x.takes(0, 0, 9001, 0, 0), -6);
    Check.due("tick above", x.takes(0, 0, 9000, 0, 10000), -6);
    Check.due("refusals", Check.refused(x), 50022);
    Check.due("greatest", x.takes(0, 0, 9000, 3, 9999), 5);
  }

  private static void spin() {
    PlateRings x = Check.plain("5");
    Check.due("no plate", x.spin(1, -1, 0), -1);
    Check.due("no floor", x.spin(0, 9001, 4), -1);
    Check.due("below", x.spin(0, -1, 0), -4);
    Check.due("above", x.spin(0, 9001, 0), -6);
    Check.due("still nothing spins", x.state(0), -3);
    Check.due("refusals", Check.refused(x), 20111);
    Check.due("its tone", x.spin(0, 890, 2), 100);
    x.tick(7);
    Check.due("refused", x.spin(0, 9001, 0), -6);
    Check.due("it goes on", x.state(3), 7);
    Check.due("another", x.spin(0, 90, 1), 900);
    Check.due("lean", x.state(1), 90);
    Check.due("tick", x.state(3), 0);
    Check.due("floor", x.state(5), 1);
    Check.due("rolled", x.rolled(), 0);
    Check.due("tenths", x.state(6), 1);
    Check.due("took", x.lossOf(0, 3), 0);
    Check.due("lean 0 spins", x.spin(0, 0, 0), 9000);
    Check.due("it has not ended yet", x.state(4), 0);
  }

  private static void tick() {
    PlateRings x = Check.plain("1");
    Check.due("nothing spins", x.tick(0), -3);
    x.spin(0, 1005, 0);
    Check.due("below", x.tick(0), -4);
    Check.due("above", x.tick(1000), -6);
    Check.due("nothing changed", x.state(3), 0);
    Check.due("999", x.tick(999), 0);
    Check.due("lean", x.state(1), 6);
    Check.due("goes on", x.tick(5), 0);
    Check.due("till it ends", x.tick(999), 1);
    Check.due("tick", x.state(3), 1005);
    Check.due("ended", x.tick(1), 1);
    Check.due("tick stays", x.state(3), 1005);
    Check.due("ended, below", x.tick(-5), -4);
    Check.due("ended, above", x.tick(1000), -6);
    Check.due("refusals", Check.refused(x), 122);
  }

  private static void ends() {
    PlateRings x = Check.plain("l/10");
    x.spin(0, 15, 0);
    Check.due("stands", x.tick(999), 3);
    Check.due("at lean 9", x.state(1), 9);
    Check.due("six take one, the seventh none", x.state(3), 7);
    x.spin(0, 0, 0);
    Check.due("lies though nothing was taken", x.tick(1), 1);
    Check.due("in one tick", x.state(3), 1);
    PlateRings y = Check.plain("10");
    Check.loss(y, "3", 3, 0, 0);
    y.spin(0, 120, 0);
    Check.due("not yet below 90", y.tick(3), 0);
    Check.due("at 90", y.state(1), 90);
    Check.due("at 90 no leap", y.tick(1), 0);
    Check.due("leaps", y.tick(5), 2);
    Check.due("lean behind", y.state(1), 67);
    Check.due("ended so", y.state(4), 2);
    y.spin(0, 13, 0);
    Check.due("lies ahead of leaps", y.tick(1), 1);
    y.spin(0, 14, 0);
    Check.due("leaps with 1 left", y.tick(1), 2);
    Check.due("1 left", y.state(1), 1);
    PlateRings one = Check.plain();
    Check.loss(one, "1", 3, 0, 0);
    one.spin(0, 80, 0);
    Check.due("leaps by one", one.tick(9), 2);
    Check.due("at once", one.state(1), 79);
    PlateRings none = Check.plain();
    none.spin(0, 100, 0);
    Check.due("stands without losses", none.tick(9), 3);
    Check.due("in one tick", none.state(3), 1);
  }

  private static void parts() {
    PlateRings x = Check.plain("6", "7", "8");
    x.spin(0, 31, 0);
    x.tick(1);
    Check.due("lean", x.state(1), 10);
    x.tick(1);
    Check.due("took 0", x.lossOf(0, 3), 12);
    Check.due("took 1", x.lossOf(1, 3), 11);
    Check.due("took 2", x.lossOf(2, 3), 8);
    Check.due("lies", x.state(4), 1);
  }

  private static void changes() {
    PlateRings x = Check.plain();
    Check.loss(x, "5", 0, 0, 0);
    Check.loss(x, "9", 4, 0, 0);
    x.spin(0, 500, 1);
    x.tick(2);
    Check.due("air takes", x.state(1), 490);
    x.floor(1, 0, 7);
    x.tick(1);
    Check.due("the floor takes too", x.state(1), 483);
    x.air(false);
    x.tick(1);
    Check.due("the floor alone", x.state(1), 481);
    Check.rolling(x, "t");
    x.tick(1);
    Check.due("one loss more", x.state(1), 481 - 2 - 9000 / 491 * 10);
    Check.due("what it took", x.lossOf(2, 3), 9000 / 491 * 10);
  }

  private static void state() {
    PlateRings x = Check.plain("5");
    Check.plate(x, "w1d1b9");
    Check.due("nothing spins", x.state(0), -3);
    Check.due("nothing spins", x.state(7), -3);
    x.spin(1, 200, 3);
    x.tick(22);
    int[] want = {1, 90, 90 * 109 / 10, 22, 0, 3, 3};
    for (int what = 0; what < want.length; what++) {
      Check.due("state(" + what + ")", x.state(what), want[what]);
    }
    Check.due("no what", x.state(7), -2);
    Check.due("no what", x.state(-1), -2);
    Check.due("refusals", Check.refused(x), 2200);
  }

  private static void rolled() {
    PlateRings x = Check.plain("100");
    Check.due("nothing spins", x.rolled(), -3);
    Check.due("refusals", Check.refused(x), 100);
    x.spin(0, 290, 0);
    Check.due("at first", x.rolled(), 0);
    x.tick(1);
    Check.due("by the tone ahead of it", x.rolled(), 300);
    x.tick(1);
    Check.due("and the next", x.rolled(), 300 + 450);
    x.tick(1);
    Check.due("and the next", x.rolled(), 300 + 450 + 900);
    x.tick(9);
    Check.due("it lies", x.rolled(), 300 + 450 + 900);
  }

  private static void tenths() {
    PlateRings x = Check.plain("10");
    Check.due("no what", x.tenth(-1, 2), -2);
    Check.due("nothing spins", x.tenth(-1, 0), -3);
    x.spin(0, 190, 0);
    Check.due("below", x.tenth(-1, 1), -4);
    Check.due("no what", x.tenth(-1, -1), -2);
    Check.due("refusals", Check.refused(x), 2110);
    Check.due("lean at first", x.tenth(0, 0), 190);
    Check.due("tone at first", x.tenth(0, 1), 450);
    Check.due("not so many", x.tenth(1, 0), -9);
    x.tick(9);
    Check.due("not yet", x.tenth(1, 0), -9);
    x.tick(1);
    Check.due("lean at 10", x.tenth(1, 0), 90);
    Check.due("tone at 10", x.tenth(1, 1), 900);
    Check.due("how many", x.state(6), 2);
    x.tick(99);
    Check.due("no more behind its end", x.state(6), 2);
    Check.due("far too many", x.tenth(Integer.MAX_VALUE, 0), -9);
    x.spin(0, 100, 0);
    x.tick(99);
    Check.due("kept at its end", x.tenth(1, 0), 0);
    Check.due("kept at its end", x.tenth(1, 1), 9000);
    Check.due("refusals", Check.refused(x), 2110);
  }

  private static void tenthsRoom() {
    PlateRings x = Check.plain("1");
    x.spin(0, 1500, 0);
    x.tick(989);
    Check.due("tenths at 989", x.state(6), 99);
    x.tick(1);
    Check.due("tenths at 990", x.state(6), 100);
    x.tick(100);
    Check.due("tenths at 1090", x.state(6), 100);
    Check.due("the last", x.tenth(99, 0), 510);
    Check.due("no further", x.tenth(100, 0), -9);
  }

  private static void lasts() {
    PlateRings x = Check.plain("1");
    Check.due("by ones", x.lasts(0, 9000, 0, 0), 9000);
    Check.due("lies", x.lasts(0, 9000, 0, 1), 1);
    Check.due("lean 0", x.lasts(0, 0, 3, 0), 1);
    Check.due("lean 0 lies", x.lasts(0, 0, 3, 1), 1);
    Check.due("nothing spins by it", x.state(0), -3);
    Check.loss(x, "5", 3, 0, 0);
    Check.due("leaps at 89", x.lasts(0, 100, 0, 0), 12);
    Check.due("leaps", x.lasts(0, 100, 0, 1), 2);
    Check.due("no plate", x.lasts(1, -1, 0, 2), -1);
    Check.due("no floor", x.lasts(0, -1, 4, 2), -1);
    Check.due("no what", x.lasts(0, -1, 0, 2), -2);
    Check.due("below", x.lasts(0, -1, 0, 0), -4);
    Check.due("above", x.lasts(0, 9001, 0, 1), -6);
    Check.due("refusals", Check.refused(x), 21111);
    PlateRings y = Check.plain();
    Check.loss(y, "1", 6, 0, 9);
    Check.due("stands behind its early loss", y.lasts(0, 100, 0, 0), 11);
    Check.due("stands", y.lasts(0, 100, 0, 1), 3);
    y.spin(0, 70, 0);
    y.tick(5);
    y.lasts(0, 100, 0, 0);
    Check.due("in mind alone", y.state(1), 65);
    Check.due("in mind alone", y.lossOf(0, 3), 5);
  }

  private static void rules() {
    PlateRings x = Check.plain("l/10", "5", "5");
    Check.due("nothing spins", x.rules(-1), -3);
    x.spin(0, 70, 0);
    x.tick(9);
    Check.due("below", x.rules(-1), -4);
    Check.due("above", x.rules(10000), -6);
    Check.due("refusals", Check.refused(x), 111);
    Check.due("at 70", x.rules(0), 0);
    Check.due("at 53 as many, the least", x.rules(1), 0);
    Check.due("at 38", x.rules(2), 1);
    Check.due("at 13", x.rules(4), 1);
    Check.due("at 2, more than is left", x.rules(5), 1);
    Check.due("just ended", x.rules(6), -9);
    Check.due("ended ahead", x.rules(9999), -9);
    PlateRings none = Check.plain("0");
    none.spin(0, 70, 0);
    Check.due("none takes", none.rules(0), -9);
    Check.rolling(none, "1");
    Check.due("one rules by one", none.rules(0), 1);
    PlateRings y = Check.plain("2", "3");
    y.spin(0, 0, 0);
    Check.due("what it would take at lean 0", y.rules(0), 1);
    y.spin(0, 7, 0);
    Check.due("more than is left", y.rules(1), 1);
    Check.due("it ended ahead", y.rules(2), -9);
    y.air(false);
    Check.loss(y, "9", 0, 0, 0);
    Check.due("without air", y.rules(0), 1);
    y.air(true);
    Check.due("as losses are now", y.rules(0), 2);
  }

  private static void passes() {
    PlateRings x = Check.plain("l/10", "5", "5");
    Check.due("nothing spins", x.passes(), -3);
    Check.due("refusals", Check.refused(x), 100);
    x.spin(0, 70, 0);
    Check.due("at tick 2", x.passes(), 2);
    x.spin(0, 49, 0);
    Check.due("never", x.passes(), -9);
    PlateRings y = Check.plain("1");
    Check.loss(y, "2", 6, 40, 50);
    y.spin(0, 100, 0);
    Check.due("an early one", y.passes(), 40);
    PlateRings none = Check.plain();
    none.spin(0, 100, 0);
    Check.due("none takes", none.passes(), -9);
    PlateRings late = Check.plain();
    Check.loss(late, "2", 6, 0, 3);
    Check.loss(late, "2", 6, 5, 9);
    late.spin(0, 100, 0);
    Check.due("none does not count, it stands", late.passes(), -9);
  }
}
