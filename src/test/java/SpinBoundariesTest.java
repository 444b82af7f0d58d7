/** Boundary cases of promises 9 to 18 and of part II of the Terms, each under the document's own words. */
public final class SpinBoundariesTest {
  private static final int MOST = Integer.MAX_VALUE;
  private static final int LEAST = Integer.MIN_VALUE;

  public static void main(String[] args) {
    tone();
    toneAt();
    takes();
    spin();
    spinAnew();
    asTheyAre();
    leanZeroAtLeast();
    asTheyAreThen();
    partsByNumbers();
    rolled();
    lies();
    leaps();
    stands();
    askedInThisOrder();
    noFurther();
    tick();
    tickTillItEnds();
    state();
    rolledRefused();
    tenthsKept();
    tenthsHundred();
    tenth();
    lasts();
    lastsRefused();
    rulesLeast();
    rulesNone();
    rulesInMind();
    rulesRefused();
    passes();
    passesNone();
    took();
    Check.end();
  }

  private static void tone() {
    Check.by("TONE: 9000 by (LEAN and 10), cut, times (100 and DISH), by (10 and WIDTH by 10, cut), cut.");
    PlateRings x = new PlateRings();
    String[] texts = {"w1d1", "w1d9b9", "w1d10", "w1d19b1", "w1d20b5", "w1d99b9"};
    for (String text : texts) {
      Check.plate(x, text);
    }
    int[] dish = {0, 9, 0, 1, 5, 9};
    int[] by = {10, 10, 11, 11, 12, 19};
    for (int i = 0; i < texts.length; i++) {
      for (int lean : new int[] {0, 1, 80, 81, 490, 890, 891, 4490, 4491, 8989, 8990, 8991, 9000}) {
        int want = 9000 / (lean + 10) * (100 + dish[i]) / by[i];
        Check.due(texts[i] + " at " + lean, x.toneAt(i, lean), want);
      }
    }
    Check.due("9000 by 10, times 10", x.toneAt(0, 0), 9000);
    Check.due("9000 by 9000, times 10", x.toneAt(0, 8990), 10);
    Check.due("9000 by 9001", x.toneAt(0, 8991), 0);
    Check.due("the highest", x.toneAt(1, 0), 9810);
    Check.due("cut ahead of DISH: 8 times 109 by 10", x.toneAt(1, 1100), 87);
  }

  private static void toneAt() {
    Check.by("TONE of a PLATE at a LEAN (0 .. 9000). -1; -4; -6.");
    PlateRings x = Check.plain();
    for (int plate : new int[] {-1, 1, 6, MOST, LEAST}) {
      Check.due("toneAt(" + plate + ", 0)", x.toneAt(plate, 0), -1);
      Check.due("toneAt(" + plate + ", -1)", x.toneAt(plate, -1), -1);
      Check.due("toneAt(" + plate + ", 9001)", x.toneAt(plate, 9001), -1);
    }
    Check.due("-1", x.toneAt(0, -1), -4);
    Check.due("-10", x.toneAt(0, -10), -4);
    Check.due("least", x.toneAt(0, LEAST), -4);
    Check.due("9001", x.toneAt(0, 9001), -6);
    Check.due("most", x.toneAt(0, MOST), -6);
    Check.due("0", x.toneAt(0, 0), 9000);
    Check.due("9000", x.toneAt(0, 9000), 0);
    Check.due("NOBODY", x.count(11), 15);
    Check.due("BELOW", x.count(14), 3);
    Check.due("ROOM", x.count(16), 2);
  }

  private static void takes() {
    Check.by("What a LOSS takes of a PLATE at a LEAN on a FLOOR in a TICK. -1 any; -4; -6 (LEAN, TICK 9999).");
    PlateRings x = Check.plain("5+k");
    for (int bad : new int[] {-1, 4, 8, MOST, LEAST}) {
      Check.due("no LOSS " + bad, x.takes(bad, 0, 0, 0, 0), -1);
      Check.due("no PLATE " + bad, x.takes(0, bad, 0, 0, 0), -1);
      Check.due("no FLOOR " + bad, x.takes(0, 0, 0, bad, 0), -1);
      Check.due("no FLOOR, all else wrong", x.takes(0, 0, -1, bad, 10000), -1);
    }
    Check.due("LEAN -1", x.takes(0, 0, -1, 0, 10000), -4);
    Check.due("LEAN least", x.takes(0, 0, LEAST, 0, 0), -4);
    Check.due("TICK -1", x.takes(0, 0, 9001, 0, -1), -4);
    Check.due("TICK least", x.takes(0, 0, 0, 0, LEAST), -4);
    Check.due("LEAN 9001", x.takes(0, 0, 9001, 0, 0), -6);
    Check.due("LEAN most", x.takes(0, 0, MOST, 0, 0), -6);
    Check.due("TICK 10000", x.takes(0, 0, 0, 0, 10000), -6);
    Check.due("TICK most", x.takes(0, 0, 0, 0, MOST), -6);
    Check.due("least of all", x.takes(0, 0, 0, 0, 0), 5);
    x.floor(3, 1, 9);
    Check.due("greatest of all", x.takes(0, 0, 9000, 3, 9999), 14);
    Check.due("NOBODY", x.count(11), 20);
    Check.due("BELOW", x.count(14), 4);
    Check.due("ROOM", x.count(16), 4);
    Check.due("nothing spins by it", x.state(0), -3);
  }

  private static void spin() {
    Check.by("A PLATE spins from a LEAN on a FLOOR (TICK 0; all LOSSES took 0): its TONE. -1; -4; -6.");
    PlateRings x = Check.plain("5");
    for (int bad : new int[] {-1, 4, 6, MOST, LEAST}) {
      Check.due("no PLATE " + bad, x.spin(bad, 100, 0), -1);
      Check.due("no FLOOR " + bad, x.spin(0, 100, bad), -1);
      Check.due("no FLOOR, LEAN below", x.spin(0, -1, bad), -1);
    }
    Check.due("no PLATE 1", x.spin(1, 9001, 0), -1);
    Check.due("-1", x.spin(0, -1, 0), -4);
    Check.due("least", x.spin(0, LEAST, 0), -4);
    Check.due("9001", x.spin(0, 9001, 0), -6);
    Check.due("most", x.spin(0, MOST, 0), -6);
    Check.due("nothing spins yet", x.state(3), -3);
    Check.by("THE PLATE that spins: a PLATE, a LEAN (0 .. 9000), a FLOOR, TICK 0.");
    Check.due("LEAN 9000", x.spin(0, 9000, 3), 0);
    Check.due("LEAN", x.state(1), 9000);
    Check.due("TICK", x.state(3), 0);
    Check.due("FLOOR", x.state(5), 3);
    Check.due("LEAN 0", x.spin(0, 0, 0), 9000);
    Check.due("LEAN", x.state(1), 0);
    Check.due("it has not ENDED: there was no TICK", x.state(4), 0);
    Check.due("its TENTH at TICK 0", x.state(6), 1);
  }

  private static void spinAnew() {
    Check.by("(TICK 0; all LOSSES took 0)");
    PlateRings x = Check.plain("5", "7");
    x.spin(0, 1000, 1);
    x.tick(35);
    Check.due("refused", x.spin(0, 9001, 0), -6);
    Check.due("it goes on as it was", x.state(3), 35);
    Check.due("TOOK", x.lossOf(1, 3), 245);
    Check.due("TENTHS", x.state(6), 4);
    x.spin(0, 12, 0);
    Check.due("TICK", x.state(3), 0);
    Check.due("TOOK", x.lossOf(0, 3), 0);
    Check.due("TOOK", x.lossOf(1, 3), 0);
    Check.due("ROLLED", x.rolled(), 0);
    Check.due("TENTHS", x.state(6), 1);
    Check.due("a TENTH of the spin ahead", x.tenth(1, 0), -9);
    Check.due("its first", x.tenth(0, 0), 12);
    Check.due("it lies", x.tick(9), 1);
    x.spin(0, 500, 0);
    Check.due("no end from the spin ahead", x.state(4), 0);
    Check.due("it goes on", x.tick(1), 0);
  }

  private static void asTheyAre() {
    Check.by("of each LOSS what it takes is reckoned by LEAN and TONE as they are;");
    PlateRings x = Check.plain("l/2", "l/4", "t/10");
    x.spin(0, 190, 0);
    x.tick(1);
    Check.due("190 by 2", x.lossOf(0, 3), 95);
    Check.due("190 by 4, not 95 by 4", x.lossOf(1, 3), 47);
    Check.due("450 by 10, though it rings higher then", x.lossOf(2, 3), 45);
    Check.due("LEAN", x.state(1), 3);
    PlateRings y = Check.plain("10");
    Check.loss(y, "5", 3, 0, 0);
    y.spin(0, 99, 0);
    Check.due("at 99 none LEAPS, though 89 are left", y.tick(1), 0);
    Check.due("LEAN", y.state(1), 89);
    PlateRings z = Check.plain("1");
    Check.loss(z, "5", 2, 0, 0);
    z.spin(0, 891, 0);
    z.tick(1);
    Check.due("at TONE 90 none SLIDES, though 100 is next", z.state(1), 890);
    z.tick(1);
    Check.due("at TONE 100", z.state(1), 884);
  }

  private static void leanZeroAtLeast() {
    Check.by("together they are taken from LEAN (0 at least;");
    PlateRings x = Check.plain("l*l", "l*l", "l*l", "l*l", "l*l", "l*l", "l*l", "l*l");
    x.spin(0, 9000, 0);
    Check.due("eight times 9999", x.tick(1), 1);
    Check.due("LEAN", x.state(1), 0);
    Check.due("the first took all", x.lossOf(0, 3), 9000);
    Check.due("the last took none", x.lossOf(7, 3), 0);
    PlateRings y = Check.plain("6", "4");
    y.spin(0, 11, 0);
    Check.due("10 of 11", y.tick(1), 0);
    Check.due("LEAN", y.state(1), 1);
    y.spin(0, 10, 0);
    Check.due("10 of 10", y.tick(1), 1);
    y.spin(0, 9, 0);
    Check.due("10 of 9", y.tick(1), 1);
    Check.due("LEAN", y.state(1), 0);
  }

  private static void asTheyAreThen() {
    Check.by("AIR, FLOORS, LOSSES as they are then)");
    PlateRings x = Check.plain("k");
    Check.loss(x, "3", 0, 0, 0);
    x.spin(0, 1000, 2);
    x.tick(1);
    Check.due("AIR", x.state(1), 997);
    x.air(false);
    x.floor(2, 1, 9);
    x.tick(1);
    Check.due("TILT", x.state(1), 988);
    x.floor(2, 1, 1);
    Check.rolling(x, "100");
    x.tick(1);
    Check.due("a LOSS more", x.state(1), 887);
    Check.due("what it took", x.lossOf(2, 3), 100);
    x.floor(2, 1, 0);
    x.floor(0, 1, 9);
    x.air(true);
    x.tick(1);
    Check.due("another FLOOR's TILT does not count", x.state(1), 784);
  }

  private static void partsByNumbers() {
    Check.by("each LOSS's part is counted (of what was taken in all no more than LEAN: LOSSES by numbers first)");
    PlateRings x = Check.plain("6", "0", "7", "8");
    x.spin(0, 13, 0);
    x.tick(1);
    Check.due("all of its 6", x.lossOf(0, 3), 6);
    Check.due("of none none", x.lossOf(1, 3), 0);
    Check.due("all of its 7", x.lossOf(2, 3), 7);
    Check.due("nothing is left", x.lossOf(3, 3), 0);
    x.spin(0, 14, 0);
    x.tick(1);
    Check.due("one is left", x.lossOf(3, 3), 1);
    x.spin(0, 12, 0);
    x.tick(1);
    Check.due("one fewer than its 7", x.lossOf(2, 3), 6);
    x.spin(0, 5, 0);
    x.tick(1);
    Check.due("one fewer than its 6", x.lossOf(0, 3), 5);
    Check.due("none", x.lossOf(2, 3), 0);
    x.spin(0, 0, 0);
    x.tick(1);
    Check.due("of LEAN 0 none", x.lossOf(0, 3), 0);
    x.spin(0, 21, 0);
    x.tick(1);
    Check.due("just all", x.lossOf(3, 3), 8);
  }

  private static void rolled() {
    Check.by("ROLLED grows by TONE; TICK is one more.");
    PlateRings x = Check.plain("100");
    x.spin(0, 290, 0);
    Check.due("at TICK 0", x.rolled(), 0);
    x.tick(1);
    Check.due("by TONE as it was", x.rolled(), 300);
    Check.due("TICK", x.state(3), 1);
    x.tick(9);
    Check.due("in the TICK in which it ENDS too", x.rolled(), 300 + 450 + 900);
    Check.due("TICK", x.state(3), 3);
    x.spin(0, 0, 0);
    x.tick(1);
    Check.due("from LEAN 0", x.rolled(), 9000);
    x.spin(0, 9000, 0);
    x.tick(1);
    Check.due("TONE 0", x.rolled(), 0);
    Check.by("ROLLED so far (a long). -3.");
    PlateRings y = Check.plain("1");
    Check.plate(y, "w1d1b9");
    y.spin(1, 9000, 0);
    long sum = 0;
    for (int lean = 9000; lean > 0; lean--) {
      sum += 9000 / (lean + 10) * 109 / 10;
    }
    for (int i = 0; i < 10; i++) {
      y.tick(999);
    }
    Check.due("all that can be", y.rolled(), sum);
  }

  private static void lies() {
    Check.by("LIES (1), as LEAN is 0;");
    PlateRings x = Check.plain("1");
    x.spin(0, 2, 0);
    Check.due("1 is left", x.tick(1), 0);
    Check.due("0 is left", x.tick(1), 1);
    Check.due("how it ENDED", x.state(4), 1);
    x.spin(0, 1, 0);
    Check.due("at once", x.tick(1), 1);
    x.spin(0, 0, 0);
    Check.due("from 0", x.tick(1), 1);
    Check.due("in one TICK", x.state(3), 1);
  }

  private static void leaps() {
    Check.by("LEAPS (2), as a LEAPING LOSS took something, and LEAN is not 0;");
    PlateRings x = Check.plain("1");
    Check.loss(x, "1", 3, 0, 0);
    x.spin(0, 91, 0);
    Check.due("91: no leap", x.tick(1), 0);
    Check.due("90: no leap", x.tick(1), 0);
    Check.due("89: a leap", x.tick(1), 2);
    Check.due("LEAN", x.state(1), 87);
    Check.due("TICK", x.state(3), 3);
    Check.due("its part is counted", x.lossOf(1, 3), 1);
    x.spin(0, 2, 0);
    Check.due("LEAN is 0", x.tick(1), 1);
    x.spin(0, 3, 0);
    Check.due("1 is left", x.tick(1), 2);
    PlateRings none = Check.plain("1");
    Check.loss(none, "0", 3, 0, 0);
    none.spin(0, 50, 0);
    Check.due("it took nothing", none.tick(49), 0);
    Check.due("it lies", none.tick(1), 1);
  }

  private static void stands() {
    Check.by("STANDS (3), as nothing was taken in a TICK");
    PlateRings x = Check.plain("l/10");
    x.spin(0, 10, 0);
    Check.due("1 was taken", x.tick(1), 0);
    Check.due("none was", x.tick(1), 3);
    Check.due("that TICK is counted", x.state(3), 2);
    Check.due("LEAN", x.state(1), 9);
    PlateRings none = Check.plain();
    none.spin(0, 9000, 0);
    Check.due("without LOSSES", none.tick(999), 3);
    Check.due("TICK", none.state(3), 1);
    Check.due("ROLLED", none.rolled(), 0);
    PlateRings late = Check.plain();
    Check.loss(late, "1", 6, 1, 9);
    late.spin(0, 100, 0);
    Check.due("ahead of an EARLY one's FROM", late.tick(9), 3);
    Check.due("TICK", late.state(3), 1);
  }

  private static void askedInThisOrder() {
    Check.by("(asked in this order)");
    PlateRings x = Check.plain();
    Check.loss(x, "5", 3, 0, 0);
    x.spin(0, 5, 0);
    Check.due("LIES ahead of LEAPS", x.tick(1), 1);
    x.spin(0, 6, 0);
    Check.due("LEAPS", x.tick(1), 2);
    PlateRings none = Check.plain();
    none.spin(0, 0, 0);
    Check.due("LIES ahead of STANDS", none.tick(1), 1);
  }

  private static void noFurther() {
    Check.by("Behind 9999 TICKS it goes no further (4).");
    PlateRings x = Check.plain("1");
    x.spin(0, 9000, 0);
    for (int i = 0; i < 9; i++) {
      Check.due("it goes on", x.tick(999), 0);
    }
    Check.due("the most TICKS that can be", x.tick(999), 1);
    Check.due("TICK", x.state(3), 9000);
    Check.due("in mind too", x.lasts(0, 9000, 0, 0), 9000);
  }

  private static void tick() {
    Check.by("n TICKS (1 .. 999), till it ENDS: how it ENDS (1, 2, 3, 4); 0 it goes on. -3; -4; -6.");
    PlateRings x = Check.plain("1");
    for (int n : new int[] {0, 1, 999, 1000, MOST, LEAST}) {
      Check.due("nothing spins, tick(" + n + ")", x.tick(n), -3);
    }
    x.spin(0, 5000, 0);
    Check.due("0", x.tick(0), -4);
    Check.due("-1", x.tick(-1), -4);
    Check.due("least", x.tick(LEAST), -4);
    Check.due("1000", x.tick(1000), -6);
    Check.due("most", x.tick(MOST), -6);
    Check.due("no TICK was", x.state(3), 0);
    Check.due("1", x.tick(1), 0);
    Check.due("TICK", x.state(3), 1);
    Check.due("999", x.tick(999), 0);
    Check.due("TICK", x.state(3), 1000);
    Check.due("STATE", x.count(13), 6);
    Check.due("BELOW", x.count(14), 3);
    Check.due("ROOM", x.count(16), 2);
  }

  private static void tickTillItEnds() {
    Check.by("till it ENDS");
    PlateRings x = Check.plain("1");
    x.spin(0, 20, 0);
    Check.due("more than there are", x.tick(21), 1);
    Check.due("TICK", x.state(3), 20);
    Check.due("no more", x.tick(1), 1);
    Check.due("TICK", x.state(3), 20);
    Check.due("ROLLED", x.rolled() > 0 ? x.rolled() : 0, rolledByOnes(20));
    Check.due("TENTHS", x.state(6), 3);
    Check.due("ended, 0", x.tick(0), -4);
    Check.due("ended, 1000", x.tick(1000), -6);
    PlateRings y = Check.plain();
    y.spin(0, 50, 0);
    Check.due("it stands", y.tick(2), 3);
    Check.rolling(y, "9");
    Check.due("a LOSS more does not move it", y.tick(2), 3);
    Check.due("LEAN", y.state(1), 50);
    Check.due("it took none", y.lossOf(0, 3), 0);
  }

  private static long rolledByOnes(int from) {
    long sum = 0;
    for (int lean = from; lean > 0; lean--) {
      sum += Check.tone(lean);
    }
    return sum;
  }

  private static void state() {
    Check.by("Of THE PLATE: 0 its number, 1 LEAN, 2 TONE, 3 TICK, 4 how it ENDED (0), 5 FLOOR, 6 how many TENTHS. -3; -2.");
    PlateRings x = Check.plain("1");
    Check.plate(x, "w1d1b9");
    for (int what : new int[] {-1, 0, 6, 7, MOST, LEAST}) {
      Check.due("nothing spins, state(" + what + ")", x.state(what), -3);
    }
    x.spin(1, 90, 3);
    for (int what : new int[] {-1, 7, MOST, LEAST}) {
      Check.due("state(" + what + ")", x.state(what), -2);
    }
    int[] first = {1, 90, 90 * 109 / 10, 0, 0, 3, 1};
    for (int what = 0; what < 7; what++) {
      Check.due("at first state(" + what + ")", x.state(what), first[what]);
    }
    x.tick(999);
    int[] last = {1, 0, 9810, 90, 1, 3, 10};
    for (int what = 0; what < 7; what++) {
      Check.due("at its end state(" + what + ")", x.state(what), last[what]);
    }
    Check.due("STATE", x.count(13), 6);
    Check.due("OTHER", x.count(12), 4);
  }

  private static void rolledRefused() {
    Check.by("ROLLED so far (a long). -3.");
    PlateRings x = Check.plain("1");
    Check.due("nothing spins", x.rolled(), -3L);
    Check.due("STATE", x.count(13), 1);
    x.spin(0, 0, 0);
    Check.due("it spins", x.rolled(), 0L);
    Check.due("STATE", x.count(13), 1);
  }

  private static void tenthsKept() {
    Check.by("TENTHS: behind each 10 TICKS LEAN and TONE are kept");
    PlateRings x = Check.plain("1");
    x.spin(0, 30, 0);
    Check.due("the first at TICK 0", x.state(6), 1);
    x.tick(9);
    Check.due("at TICK 9", x.state(6), 1);
    x.tick(1);
    Check.due("at TICK 10", x.state(6), 2);
    Check.due("LEAN behind 10", x.tenth(1, 0), 20);
    Check.due("TONE behind 10", x.tenth(1, 1), 3000);
    x.tick(15);
    Check.due("at TICK 25", x.state(6), 3);
    x.tick(5);
    Check.due("at TICK 30, at which it ENDS", x.state(6), 4);
    Check.due("LEAN at its end", x.tenth(3, 0), 0);
    Check.due("TONE at its end", x.tenth(3, 1), 9000);
    x.spin(0, 29, 0);
    x.tick(99);
    Check.due("it ENDS at TICK 29", x.state(6), 3);
    x.spin(0, 31, 0);
    x.tick(99);
    Check.due("it ENDS at TICK 31", x.state(6), 4);
    Check.due("LEAN at TICK 30", x.tenth(3, 0), 1);
  }

  private static void tenthsHundred() {
    Check.by("0 .. 99 of them (the first at TICK 0).");
    PlateRings x = Check.plain("1");
    x.spin(0, 3000, 0);
    x.tick(989);
    Check.due("at TICK 989", x.state(6), 99);
    Check.due("99 is not yet", x.tenth(99, 0), -9);
    x.tick(1);
    Check.due("at TICK 990", x.state(6), 100);
    Check.due("99 is", x.tenth(99, 0), 2010);
    Check.due("and its TONE", x.tenth(99, 1), Check.tone(2010));
    x.tick(999);
    Check.due("no more", x.state(6), 100);
    Check.due("100 is not", x.tenth(100, 0), -9);
    Check.due("99 stays", x.tenth(99, 0), 2010);
    Check.due("0 stays", x.tenth(0, 0), 3000);
  }

  private static void tenth() {
    Check.by("LEAN (what 0), TONE (1) of a TENTH that is kept; -9 not so many. -2; -3; -4.");
    PlateRings x = Check.plain("1");
    for (int what : new int[] {-1, 2, MOST, LEAST}) {
      Check.due("tenth(0, " + what + ")", x.tenth(0, what), -2);
      Check.due("tenth(-1, " + what + ")", x.tenth(-1, what), -2);
    }
    Check.due("nothing spins", x.tenth(0, 0), -3);
    Check.due("nothing spins", x.tenth(-1, 1), -3);
    x.spin(0, 90, 0);
    Check.due("-1", x.tenth(-1, 0), -4);
    Check.due("least", x.tenth(LEAST, 1), -4);
    for (int i : new int[] {1, 99, 100, 101, MOST}) {
      Check.due("tenth(" + i + ", 0)", x.tenth(i, 0), -9);
      Check.due("tenth(" + i + ", 1)", x.tenth(i, 1), -9);
    }
    Check.due("LEAN", x.tenth(0, 0), 90);
    Check.due("TONE", x.tenth(0, 1), 900);
    Check.due("refusals", Check.refused(x), 8220);
  }

  private static void lasts() {
    Check.by("LASTS of a PLATE with a LEAN on a FLOOR (in mind): TICKS till it ENDS; HOW it ENDS.");
    PlateRings x = Check.plain("1");
    Check.loss(x, "1", 3, 0, 0);
    Check.due("LEAN 0", x.lasts(0, 0, 0, 0), 1);
    Check.due("LIES", x.lasts(0, 0, 0, 1), 1);
    Check.due("LEAN 2", x.lasts(0, 2, 0, 0), 1);
    Check.due("LIES", x.lasts(0, 2, 0, 1), 1);
    Check.due("LEAN 3", x.lasts(0, 3, 0, 0), 1);
    Check.due("LEAPS", x.lasts(0, 3, 0, 1), 2);
    Check.due("LEAN 9000", x.lasts(0, 9000, 0, 0), 8912);
    Check.due("LEAPS", x.lasts(0, 9000, 0, 1), 2);
    Check.due("nothing spins by it", x.state(0), -3);
    PlateRings none = Check.plain();
    Check.due("without LOSSES", none.lasts(0, 9000, 3, 0), 1);
    Check.due("STANDS", none.lasts(0, 9000, 3, 1), 3);
    none.spin(0, 700, 1);
    none.lasts(0, 90, 0, 0);
    Check.due("THE PLATE is as it was", none.state(1), 700);
    Check.due("on its FLOOR", none.state(5), 1);
    Check.due("in its TICK", none.state(3), 0);
  }

  private static void lastsRefused() {
    Check.by("LASTS (what 0), HOW (1). -1; -2; -4; -6.");
    PlateRings x = Check.plain("1");
    for (int bad : new int[] {-1, 4, 6, MOST, LEAST}) {
      Check.due("no PLATE " + bad, x.lasts(bad, 5, 0, 0), -1);
      Check.due("no FLOOR " + bad, x.lasts(0, 5, bad, 0), -1);
      Check.due("no PLATE, all else wrong", x.lasts(bad, -1, 0, 2), -1);
      Check.due("no FLOOR, all else wrong", x.lasts(0, 9001, bad, 2), -1);
    }
    for (int what : new int[] {-1, 2, MOST, LEAST}) {
      Check.due("what " + what, x.lasts(0, 5, 0, what), -2);
      Check.due("what " + what + ", LEAN below", x.lasts(0, -1, 0, what), -2);
      Check.due("what " + what + ", LEAN above", x.lasts(0, 9001, 0, what), -2);
    }
    Check.due("-1", x.lasts(0, -1, 0, 0), -4);
    Check.due("least", x.lasts(0, LEAST, 0, 1), -4);
    Check.due("9001", x.lasts(0, 9001, 0, 0), -6);
    Check.due("most", x.lasts(0, MOST, 0, 1), -6);
  }

  private static void rulesLeast() {
    Check.by("the LOSS that takes most in it (of several the least;");
    PlateRings x = Check.plain("3", "4", "4", "2");
    x.spin(0, 1000, 0);
    Check.due("4 ahead of 3, the first of two", x.rules(0), 1);
    Check.rolling(x, "5");
    Check.due("the last", x.rules(0), 4);
    PlateRings y = Check.plain("l/10", "5");
    y.spin(0, 50, 0);
    Check.due("5 and 5", y.rules(0), 0);
    Check.due("4 and 5", y.rules(1), 1);
  }

  private static void rulesNone() {
    Check.by("-9 none takes, or it ended ahead).");
    PlateRings x = Check.plain("0", "l/10");
    x.spin(0, 10, 0);
    Check.due("1 is taken", x.rules(0), 1);
    Check.due("none takes", x.rules(1), -9);
    Check.due("it ended ahead", x.rules(2), -9);
    Check.due("it ended ahead", x.rules(9999), -9);
    PlateRings none = Check.plain();
    none.spin(0, 10, 0);
    Check.due("no LOSSES", none.rules(0), -9);
    Check.due("no LOSSES", none.rules(9999), -9);
    PlateRings most = Check.plain("1");
    most.spin(0, 9000, 0);
    Check.due("the last TICK", most.rules(8999), 0);
    Check.due("it ended", most.rules(9000), -9);
    Check.due("-9 is no refusal", Check.refused(most), 0);
  }

  private static void rulesInMind() {
    Check.by("RULES at a TICK of THE PLATE's spin (in mind, from its beginning)");
    PlateRings x = Check.plain("l/10", "5");
    x.spin(0, 100, 0);
    x.tick(999);
    Check.due("though it has ended", x.rules(0), 0);
    Check.due("at its beginning 100 less 15, 13, 12", x.rules(3), 0);
    Check.due("60 less 11, at 49", x.rules(4), 1);
    Check.due("THE PLATE is as it was", x.state(4), 1);
    Check.rolling(x, "99");
    Check.due("LOSSES as they are now", x.rules(0), 2);
    Check.due("it ends sooner now", x.rules(1), -9);
  }

  private static void rulesRefused() {
    Check.by("RULES; -9. -3; -4; -6.");
    PlateRings x = Check.plain("1");
    for (int tick : new int[] {-1, 0, 9999, 10000}) {
      Check.due("nothing spins, rules(" + tick + ")", x.rules(tick), -3);
    }
    x.spin(0, 10, 0);
    Check.due("-1", x.rules(-1), -4);
    Check.due("least", x.rules(LEAST), -4);
    Check.due("10000", x.rules(10000), -6);
    Check.due("most", x.rules(MOST), -6);
    Check.due("0", x.rules(0), 0);
    Check.due("9999", x.rules(9999), -9);
    Check.due("refusals", Check.refused(x), 422);
  }

  private static void passes() {
    Check.by("PASSES: the first TICK at which another LOSS RULES than at TICK 0 (none does not count); -9 never.");
    PlateRings x = Check.plain("2");
    Check.loss(x, "3", 6, 1, 1);
    x.spin(0, 50, 0);
    Check.due("at TICK 1", x.passes(), 1);
    x.spin(0, 2, 0);
    Check.due("it ENDS in TICK 0", x.passes(), -9);
    x.spin(0, 3, 0);
    Check.due("it ENDS in TICK 1", x.passes(), 1);
    PlateRings last = Check.plain("1");
    Check.loss(last, "2", 6, 8999, 9999);
    last.spin(0, 9000, 0);
    Check.due("in the last TICK", last.passes(), 8999);
    last.spin(0, 8999, 0);
    Check.due("never", last.passes(), -9);
    PlateRings back = Check.plain("2");
    Check.loss(back, "3", 6, 0, 4);
    back.spin(0, 100, 0);
    Check.due("the least number passes", back.passes(), 5);
    PlateRings even = Check.plain("2", "2");
    even.spin(0, 100, 0);
    Check.due("as many is no more", even.passes(), -9);
    back.tick(20);
    Check.due("from its beginning", back.passes(), 5);
    Check.due("THE PLATE is as it was", back.state(3), 20);
  }

  private static void passesNone() {
    Check.by("PASSES; -9. -3.");
    PlateRings x = Check.plain();
    Check.due("nothing spins", x.passes(), -3);
    x.spin(0, 100, 0);
    Check.due("no LOSSES", x.passes(), -9);
    Check.loss(x, "1", 6, 1, 9);
    Check.due("none at TICK 0: it STANDS", x.passes(), -9);
    Check.rolling(x, "1");
    Check.due("as much as 0, the least: 0 passes 1", x.passes(), 1);
    PlateRings y = Check.plain("l/10");
    y.spin(0, 19, 0);
    Check.due("none at its end does not count", y.passes(), -9);
    Check.due("refusals", Check.refused(x), 100);
  }

  private static void took() {
    Check.by("TOOK: what a LOSS took so far.");
    PlateRings x = Check.plain("1", "2");
    Check.due("nothing has spun", x.lossOf(1, 3), 0);
    x.spin(0, 301, 0);
    Check.due("no TICK yet", x.lossOf(1, 3), 0);
    x.tick(1);
    Check.due("one", x.lossOf(1, 3), 2);
    x.tick(999);
    Check.due("all in all 301", x.lossOf(0, 3) + x.lossOf(1, 3), 301);
    Check.due("the least first at its end", x.lossOf(0, 3), 101);
    Check.rolling(x, "5");
    Check.due("one that came behind its end", x.lossOf(2, 3), 0);
    x.lasts(0, 500, 0, 0);
    Check.due("in mind none takes", x.lossOf(0, 3), 101);
  }
}
