/** Boundary cases of promises 19 to 23, 28, 29 and of the Terms that they use, each under the document's own words. */
public final class TonesBoundariesTest {
  private static final int MOST = Integer.MAX_VALUE;
  private static final int LEAST = Integer.MIN_VALUE;

  public static void main(String[] args) {
    rowFull();
    heardValues();
    hush();
    slip();
    slipRefused();
    fitsSet();
    fitsBySlip();
    fitsNotHeard();
    fitsNotComeTo();
    fitsLastTenth();
    firstOffNone();
    firstOffRefused();
    supposedSets();
    supposedFewest();
    supposedNone();
    supposedRefused();
    earLeast();
    earNotComeTo();
    earFrom();
    earFalse();
    earRefused();
    staggerLeast();
    staggerOneMore();
    staggerTill();
    staggerNone();
    staggerRefused();
    Check.end();
  }

  private static int tone(int lean) {
    return Check.tone(lean);
  }

  private static void rowFull() {
    Check.by("A ROW OF TONES (24 at most)");
    PlateRings x = new PlateRings();
    for (int i = 1; i <= 24; i++) {
      Check.due("tone " + i, x.heard(i % 2 == 0 ? -1 : 5), i);
    }
    Check.due("a 25th", x.heard(5), -6);
    Check.due("a 25th that was not heard", x.heard(-1), -6);
    Check.due("a 25th above", x.heard(100000), -6);
    Check.due("a 25th below", x.heard(-2), -4);
    Check.due("tones", x.count(2), 24);
    Check.due("of them heard", x.count(3), 12);
    Check.due("hush", x.hush(), 24);
    Check.due("there is room again", x.heard(5), 1);
  }

  private static void heardValues() {
    Check.by("A tone more of the ROW (-1 .. 99999): how many. -4; -6 (24, too).");
    PlateRings x = new PlateRings();
    Check.due("-2", x.heard(-2), -4);
    Check.due("least", x.heard(LEAST), -4);
    Check.due("100000", x.heard(100000), -6);
    Check.due("most", x.heard(MOST), -6);
    Check.due("none came", x.count(2), 0);
    Check.due("-1", x.heard(-1), 1);
    Check.due("it was not heard", x.count(3), 0);
    Check.by("each 0 .. 99999, -1 not heard;");
    Check.due("0", x.heard(0), 2);
    Check.due("it was heard", x.count(3), 1);
    Check.due("99999", x.heard(99999), 3);
    Check.due("it was heard", x.count(3), 2);
    Check.due("refusals", Check.refused(x), 22);
  }

  private static void hush() {
    Check.by("The ROW has none: how many it had.");
    PlateRings x = Check.plain("1");
    Check.due("an empty one", x.hush(), 0);
    x.spin(0, 100, 0);
    Check.hear(x, 5, -1, 7);
    Check.due("off", x.firstOff(1), 0);
    Check.due("three", x.hush(), 3);
    Check.due("tones", x.count(2), 0);
    Check.due("of them heard", x.count(3), 0);
    Check.due("nothing is off", x.firstOff(1), -9);
    Check.due("nothing is off", x.ear(2), 0);
    x.heard(-1);
    Check.due("what was heard ahead does not come back", x.firstOff(1), -9);
    Check.due("one", x.hush(), 1);
    Check.due("refusals", Check.refused(x), 0);
  }

  private static void slip() {
    Check.by("SLIP (0 .. 999; 0 at first)");
    PlateRings x = new PlateRings();
    Check.due("at first", x.slip(999), 0);
    Check.due("-1", x.slip(-1), -4);
    Check.due("least", x.slip(LEAST), -4);
    Check.due("1000", x.slip(1000), -6);
    Check.due("most", x.slip(MOST), -6);
    Check.due("it stayed", x.slip(0), 999);
    Check.due("0", x.slip(1), 0);
    x.hush();
    Check.due("the ROW's hush leaves it", x.slip(0), 1);
    Check.due("refusals", Check.refused(x), 22);
  }

  private static void slipRefused() {
    Check.by("SLIP: what it was. -4; -6.");
    PlateRings x = Check.plain("1");
    x.spin(0, 90, 0);
    Check.hear(x, 905);
    Check.due("0 it was", x.slip(5), 0);
    Check.due("5 off fits", x.firstOff(1), -9);
    x.slip(-1);
    x.slip(1000);
    Check.due("refused it stays", x.firstOff(1), -9);
    Check.due("5 it was", x.slip(4), 5);
    Check.due("5 off does not fit", x.firstOff(1), 0);
    Check.due("BELOW", x.count(14), 1);
    Check.due("ROOM", x.count(16), 1);
  }

  private static void fitsSet() {
    Check.by("FITS a supposition: a set of LOSSES (bits) with which THE PLATE from its beginning (in mind)");
    PlateRings x = Check.plain("1", "2", "4");
    x.spin(0, 100, 0);
    x.tick(3);
    for (int set = 1; set < 8; set++) {
      Check.hear(x, 810, tone(100 - 10 * set));
      for (int other = 0; other < 8; other++) {
        Check.due("bits " + other + " of " + set, x.firstOff(other), other == set ? -9 : 1);
      }
    }
    Check.due("in mind alone", x.state(3), 3);
    Check.due("in mind alone", x.state(1), 79);
  }

  private static void fitsBySlip() {
    Check.by("has at each TENTH heard a TONE off no more than SLIP");
    PlateRings x = Check.plain("1");
    x.spin(0, 90, 0);
    for (int slip : new int[] {0, 1, 100, 899}) {
      x.slip(slip);
      Check.hear(x, 900 + slip);
      Check.due("above by " + slip, x.firstOff(1), -9);
      Check.hear(x, 900 - slip);
      Check.due("below by " + slip, x.firstOff(1), -9);
      Check.hear(x, 900 + slip + 1);
      Check.due("above by one more than " + slip, x.firstOff(1), 0);
      Check.hear(x, 900 - slip - 1);
      Check.due("below by one more than " + slip, x.firstOff(1), 0);
    }
    x.slip(999);
    Check.hear(x, 1899);
    Check.due("999 off", x.firstOff(1), -9);
    Check.hear(x, 1900);
    Check.due("1000 off", x.firstOff(1), 0);
    Check.hear(x, 99999);
    Check.due("far off", x.firstOff(1), 0);
    x.spin(0, 9000, 0);
    Check.hear(x, 0);
    x.slip(0);
    Check.due("TONE 0 heard as 0", x.firstOff(1), -9);
  }

  private static void fitsNotHeard() {
    Check.by("-1 not heard");
    PlateRings x = Check.plain("1");
    x.spin(0, 9000, 0);
    Check.hear(x, -1);
    Check.due("TONE 0, not heard", x.firstOff(1), -9);
    x.spin(0, 15, 0);
    Check.hear(x, -1, -1, -1, -1, -1);
    Check.due("nor where it does not come to", x.firstOff(1), -9);
    Check.hear(x, -1, -1, -1, -1, 5);
    Check.due("but what was heard behind it", x.firstOff(1), 4);
    Check.hear(x, -1, tone(5), -1);
    Check.due("one amid them", x.firstOff(1), -9);
    Check.hear(x, -1, tone(5) + 1, -1);
    Check.due("one off amid them", x.firstOff(1), 1);
  }

  private static void fitsNotComeTo() {
    Check.by("(a TENTH that it does not come to does not fit)");
    PlateRings x = Check.plain("1");
    x.slip(999);
    x.spin(0, 10, 0);
    Check.hear(x, -1, 9000);
    Check.due("it comes to TICK 10 and ENDS there", x.firstOff(1), -9);
    x.spin(0, 9, 0);
    Check.due("it ENDS at TICK 9", x.firstOff(1), 1);
    x.spin(0, 11, 0);
    Check.due("it goes through TICK 10: 8180 and 9000", x.firstOff(1), -9);
    PlateRings none = Check.plain();
    none.spin(0, 90, 0);
    Check.hear(none, 900);
    Check.due("it STANDS in TICK 1, behind TENTH 0", none.firstOff(0), -9);
    Check.hear(none, 900, 900);
    Check.due("and comes to no other", none.firstOff(0), 1);
    none.slip(999);
    Check.hear(none, 900, 0);
    Check.due("by any SLIP", none.firstOff(0), 1);
  }

  private static void fitsLastTenth() {
    Check.by("what was heard at TENTHS 0, 1, ..");
    PlateRings x = Check.plain("1");
    x.spin(0, 500, 0);
    int[] row = new int[24];
    for (int i = 0; i < 24; i++) {
      row[i] = tone(500 - 10 * i);
    }
    Check.hear(x, row);
    Check.due("all 24", x.firstOff(1), -9);
    row[23]++;
    Check.hear(x, row);
    Check.due("the last", x.firstOff(1), 23);
    row[22]--;
    Check.hear(x, row);
    Check.due("the last but one ahead of it", x.firstOff(1), 22);
    x.spin(0, 229, 0);
    java.util.Arrays.fill(row, -1);
    row[23] = 9000;
    Check.hear(x, row);
    Check.due("it ENDS one TICK ahead of TENTH 23", x.firstOff(1), 23);
    x.spin(0, 230, 0);
    Check.due("it ENDS in it", x.firstOff(1), -9);
  }

  private static void firstOffNone() {
    Check.by("FIRST OFF of a set: the first TENTH that does not fit; -9 none.");
    PlateRings x = Check.plain("1", "2");
    x.spin(0, 100, 0);
    for (int set = 0; set < 4; set++) {
      Check.due("an empty ROW", x.firstOff(set), -9);
    }
    Check.hear(x, tone(100), tone(80));
    Check.due("none take", x.firstOff(0), 1);
    Check.due("1 takes 10", x.firstOff(1), 1);
    Check.due("2 takes 20", x.firstOff(2), -9);
    Check.due("both take 30", x.firstOff(3), 1);
    x.tick(50);
    Check.due("from its beginning", x.firstOff(2), -9);
    Check.due("THE PLATE is as it was", x.state(3), 34);
    Check.due("-9 is no refusal", Check.refused(x), 0);
  }

  private static void firstOffRefused() {
    Check.by("FIRST OFF of a set of LOSSES; -9. -1; -3.");
    PlateRings x = Check.plain();
    for (int n = 0; n <= 8; n++) {
      Check.due("of " + n + " all", x.firstOff((1 << n) - 1), -3);
      Check.due("of " + n + " one more", x.firstOff(1 << n), -1);
      Check.rolling(x, "1");
    }
    Check.due("-1", x.firstOff(-1), -1);
    Check.due("least", x.firstOff(LEAST), -1);
    Check.due("most", x.firstOff(MOST), -1);
    x.spin(0, 100, 0);
    Check.due("255", x.firstOff(255), -9);
    Check.due("256", x.firstOff(256), -1);
    Check.due("257", x.firstOff(257), -1);
  }

  private static void supposedSets() {
    Check.by("SUPPOSED: sets of LOSSES (of those there are) that fit: how many;");
    PlateRings x = Check.plain();
    x.spin(0, 100, 0);
    for (int n = 0; n <= 8; n++) {
      Check.due("an empty ROW, " + n, x.supposed(0), 1 << n);
      Check.due("the set of none", x.supposed(1), 0);
      Check.rolling(x, "1");
    }
    Check.hear(x, -1, -1, -1);
    Check.due("none heard", x.supposed(0), 256);
    Check.hear(x, -1, tone(20));
    Check.due("all eight", x.supposed(0), 1);
    Check.due("all eight", x.supposed(1), 255);
  }

  private static void supposedFewest() {
    Check.by("the one of the fewest, of several the least as bits; -9 none.");
    PlateRings x = Check.plain("1", "2", "3", "3");
    x.spin(0, 100, 0);
    Check.hear(x, -1, tone(70));
    Check.due("{0, 1}, {2}, {3}", x.supposed(0), 3);
    Check.due("one ahead of two, the least of two", x.supposed(1), 4);
    Check.hear(x, -1, tone(50));
    Check.due("{1, 2}, {1, 3}", x.supposed(0), 2);
    Check.due("the least of two", x.supposed(1), 6);
    Check.hear(x, -1, tone(40));
    Check.due("{0, 1, 2}, {0, 1, 3}, {2, 3}", x.supposed(0), 3);
    Check.due("the fewest, not the least as bits", x.supposed(1), 12);
  }

  private static void supposedNone() {
    Check.by("SUPPOSED: how many (what 0), the set (1; -9). -2; -3.");
    PlateRings x = Check.plain("1");
    x.spin(0, 100, 0);
    Check.hear(x, tone(100) + 1);
    Check.due("none", x.supposed(0), 0);
    Check.due("none", x.supposed(1), -9);
    Check.due("-9 is no refusal", Check.refused(x), 0);
  }

  private static void supposedRefused() {
    Check.by("SUPPOSED: how many (what 0), the set (1; -9). -2; -3.");
    PlateRings x = Check.plain("1");
    for (int what : new int[] {-1, 2, MOST, LEAST}) {
      Check.due("nothing spins, what " + what, x.supposed(what), -2);
    }
    Check.due("nothing spins", x.supposed(0), -3);
    Check.due("nothing spins", x.supposed(1), -3);
    x.spin(0, 100, 0);
    Check.due("what 2", x.supposed(2), -2);
    Check.due("refusals", Check.refused(x), 5200);
  }

  private static void earLeast() {
    Check.by("that with the least sum of how far tones heard are off");
    PlateRings x = Check.plain("1");
    Check.plate(x, "w1d1b9");
    Check.plate(x, "w1d1b9e1".replace("b9e1", "e1b9"));
    x.spin(0, 90, 0);
    Check.due("an empty ROW: all 0, the least", x.ear(0), 0);
    Check.due("0", x.ear(2), 0);
    Check.hear(x, -1);
    Check.due("none heard: all 0, the least", x.ear(0), 0);
    Check.due("not FALSE", x.ear(1), 0);
    Check.hear(x, 981);
    Check.due("81, 0, 0: the least of two", x.ear(0), 1);
    Check.hear(x, 941);
    Check.due("41 and 40", x.ear(0), 1);
    Check.due("40", x.ear(2), 40);
    Check.hear(x, 940);
    Check.due("40 and 41", x.ear(0), 0);
    Check.by("of several the least; -9 no PLATES.");
    PlateRings even = Check.plain("1");
    Check.plate(even, "w1d1b2");
    even.spin(1, 90, 0);
    Check.hear(even, 909);
    Check.due("9 and 9", even.ear(0), 0);
    Check.due("9", even.ear(2), 9);
  }

  private static void earNotComeTo() {
    Check.by("(a TENTH that it does not come to counts 99999)");
    PlateRings x = Check.plain("10");
    x.spin(0, 100, 0);
    Check.hear(x, -1, 9000);
    Check.due("it comes to the TENTH at which it ENDS", x.ear(2), 0);
    Check.hear(x, -1, 9000, 5);
    Check.due("but to none behind", x.ear(2), 99999);
    Check.hear(x, -1, 9000, 99999, 0, -1, 7);
    Check.due("three of them", x.ear(2), 299997);
    int[] row = new int[24];
    Check.hear(x, row);
    Check.due("all but two of 24", x.ear(2), tone(100) + 9000 + 22 * 99999);
    Check.due("FALSE", x.ear(1), 1);
    x.slip(999);
    Check.due("FALSE by any SLIP", x.ear(1), 1);
  }

  private static void earFrom() {
    Check.by("(all LOSSES) which PLATE from THE PLATE's first LEAN and FLOOR is heard");
    PlateRings x = Check.plain("1+k", "2");
    x.floor(2, 1, 7);
    x.spin(0, 400, 2);
    x.tick(30);
    Check.hear(x, tone(400), tone(300));
    Check.due("10 a TICK on FLOOR 2 from 400", x.ear(2), 0);
    Check.due("THE PLATE is as it was", x.state(3), 30);
    Check.due("on its FLOOR", x.state(5), 2);
  }

  private static void earFalse() {
    Check.by("FALSE: whether that sum is above SLIP times the tones heard.");
    PlateRings x = Check.plain("1");
    x.spin(0, 90, 0);
    Check.hear(x, 900);
    Check.due("0 is not above 0", x.ear(1), 0);
    Check.hear(x, 901);
    Check.due("1 is above 0", x.ear(1), 1);
    x.slip(1);
    Check.due("1 is not above 1", x.ear(1), 0);
    Check.hear(x, 901, -1, -1);
    Check.due("nor with what was not heard", x.ear(1), 0);
    Check.hear(x, 902, -1, -1);
    Check.due("2 is above 1 though three tones are", x.ear(1), 1);
    Check.hear(x, 902, tone(80));
    Check.due("2 is not above twice 1", x.ear(1), 0);
    Check.hear(x, 903, tone(80));
    Check.due("3 is above twice 1", x.ear(1), 1);
    x.slip(999);
    Check.hear(x, 1899);
    Check.due("999 is not above 999", x.ear(1), 0);
    Check.hear(x, 1900);
    Check.due("1000 is above 999", x.ear(1), 1);
  }

  private static void earRefused() {
    Check.by("EAR (what 0; -9), FALSE (1: 1, 0; -9), the sum (2; -9). -2; -3.");
    PlateRings x = new PlateRings();
    for (int what : new int[] {-1, 3, MOST, LEAST}) {
      Check.due("nothing spins, what " + what, x.ear(what), -2);
    }
    for (int what = 0; what <= 2; what++) {
      Check.due("nothing spins", x.ear(what), -3);
    }
    Check.plate(x, "w1d1");
    Check.due("there are PLATES, but nothing spins", x.ear(0), -3);
    x.spin(0, 100, 0);
    Check.due("what 3", x.ear(3), -2);
    Check.due("what -1", x.ear(-1), -2);
    Check.due("refusals", Check.refused(x), 6400);
  }

  private static void staggerLeast() {
    Check.by("STAGGER: the least TICK from which on one EARLY LOSS more");
    PlateRings x = Check.plain("1");
    x.spin(0, 150, 0);
    Check.due("an empty ROW: the least", x.stagger(0), 0);
    Check.hear(x, tone(150));
    Check.due("heard at its beginning alone", x.stagger(0), 0);
    Check.due("in mind alone: no call behind it takes more", x.lasts(0, 100, 0, 0), 100);
    Check.due("nor does THE PLATE", x.tick(99), 0);
    Check.due("LEAN", x.state(1), 51);
    x.spin(0, 150, 0);
    Check.hear(x, tone(150), tone(130));
    Check.due("from 0", x.stagger(0), 0);
    Check.hear(x, tone(150), tone(140));
    Check.due("not ahead of 10", x.stagger(0), 10);
    Check.hear(x, tone(150), tone(140), tone(120));
    Check.due("from 10", x.stagger(0), 10);
    Check.hear(x, tone(150), tone(140), tone(130));
    Check.due("not ahead of 20", x.stagger(0), 20);
  }

  private static void staggerOneMore() {
    Check.by("(its LAW's, that of a told LOSS, TICKS so on till 9999) lets THE PLATE FIT by all LOSSES");
    PlateRings x = Check.plain("1");
    Check.loss(x, "2", 0, 0, 0);
    Check.loss(x, "3", 6, 500, 600);
    Check.loss(x, "9", 4, 0, 0);
    x.air(false);
    x.spin(0, 150, 0);
    Check.hear(x, -1, tone(130));
    Check.due("by LAW 1", x.stagger(0), 0);
    Check.hear(x, -1, tone(120));
    Check.due("by LAW 2 though AIR is off", x.stagger(1), 0);
    Check.hear(x, -1, tone(110));
    Check.due("by LAW 3 ahead of its own FROM", x.stagger(2), 0);
    Check.hear(x, -1, tone(50));
    Check.due("by LAW 9 though the FLOOR is HARD", x.stagger(3), 0);
    Check.due("LOSSES are as they were", x.count(1), 4);
    PlateRings full = Check.plain("1", "1", "1", "1", "1", "1", "1", "1");
    full.spin(0, 150, 0);
    Check.hear(full, -1, tone(60));
    Check.due("a ninth in mind", full.stagger(7), 0);
    PlateRings leaping = Check.plain("1");
    Check.loss(leaping, "2", 3, 0, 0);
    leaping.spin(0, 130, 0);
    Check.hear(leaping, -1, -1, tone(90));
    Check.due("an EARLY one does not leap: 10 by 1, 10 by 3", leaping.stagger(1), 10);
    Check.hear(leaping, -1, tone(100), tone(70));
    Check.due("but the other does", leaping.stagger(1), -9);
  }

  private static void staggerTill() {
    Check.by("TICKS so on till 9999)");
    PlateRings x = Check.plain("0");
    Check.loss(x, "1", 6, 0, 229);
    x.spin(0, 500, 0);
    int[] row = new int[24];
    java.util.Arrays.fill(row, -1);
    row[23] = tone(500 - 230 - 230);
    Check.hear(x, row);
    Check.due("from 0 to the last TENTH", x.stagger(1), 0);
    row[23] = tone(500 - 230 - 10);
    Check.hear(x, row);
    Check.due("from 220 on", x.stagger(1), 220);
    row[23] = tone(500 - 230);
    Check.hear(x, row);
    Check.due("from 230 on it is not heard", x.stagger(1), 230);
  }

  private static void staggerNone() {
    Check.by("of 0, 10, .. 990; -9 none.");
    PlateRings x = Check.plain("1");
    x.spin(0, 150, 0);
    Check.hear(x, tone(150) + 1);
    Check.due("none", x.stagger(0), -9);
    Check.hear(x, -1, tone(135));
    Check.due("from 5 it would be", x.stagger(0), -9);
    Check.due("-9 is no refusal", Check.refused(x), 0);
  }

  private static void staggerRefused() {
    Check.by("STAGGER by the LAW of a LOSS; -9. -1; -3.");
    PlateRings x = Check.plain("1");
    for (int loss : new int[] {-1, 1, 7, 8, MOST, LEAST}) {
      Check.due("nothing spins, no LOSS " + loss, x.stagger(loss), -1);
    }
    Check.due("nothing spins", x.stagger(0), -3);
    x.spin(0, 100, 0);
    Check.due("no LOSS 1", x.stagger(1), -1);
    Check.due("refusals", Check.refused(x), 70100);
  }
}
