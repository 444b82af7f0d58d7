/** Promises 19 to 23, 28, 29: heard, hush, slip, firstOff, supposed, ear, stagger. */
public final class TonesTest {
  public static void main(String[] args) {
    heard();
    hush();
    slip();
    firstOff();
    firstOffEnds();
    supposed();
    ear();
    earEnds();
    stagger();
    staggerEdges();
    Check.end();
  }

  private static void heard() {
    PlateRings x = new PlateRings();
    Check.due("below", x.heard(-2), -4);
    Check.due("above", x.heard(100000), -6);
    Check.due("not heard", x.heard(-1), 1);
    Check.due("greatest", x.heard(99999), 2);
    Check.due("0 is heard", x.heard(0), 3);
    Check.due("tones", x.count(2), 3);
    Check.due("of them heard", x.count(3), 2);
    for (int i = 4; i <= 24; i++) {
      Check.due("heard", x.heard(5), i);
    }
    Check.due("a 25th", x.heard(5), -6);
    Check.due("a 25th below", x.heard(-2), -4);
    Check.due("tones", x.count(2), 24);
    Check.due("refusals", Check.refused(x), 22);
  }

  private static void hush() {
    PlateRings x = new PlateRings();
    Check.due("none", x.hush(), 0);
    Check.hear(x, 5, -1, 7);
    Check.due("three", x.hush(), 3);
    Check.due("none", x.hush(), 0);
    Check.due("none heard", x.count(3), 0);
    Check.due("anew", x.heard(1), 1);
  }

  private static void slip() {
    PlateRings x = new PlateRings();
    Check.due("at first", x.slip(999), 0);
    Check.due("below", x.slip(-1), -4);
    Check.due("above", x.slip(1000), -6);
    Check.due("it was", x.slip(0), 999);
    Check.due("refusals", Check.refused(x), 11);
  }

  private static void firstOff() {
    PlateRings x = Check.plain("10", "3");
    Check.due("no set", x.firstOff(4), -1);
    Check.due("no set", x.firstOff(-1), -1);
    Check.due("nothing spins", x.firstOff(3), -3);
    Check.due("refusals", Check.refused(x), 20100);
    x.spin(0, 500, 0);
    x.tick(7);
    Check.due("an empty row fits", x.firstOff(0), -9);
    Check.hear(x, Check.tone(500), Check.tone(370), Check.tone(240));
    Check.due("both", x.firstOff(3), -9);
    Check.due("the first alone", x.firstOff(1), 1);
    Check.due("the other alone", x.firstOff(2), 1);
    Check.due("none stands", x.firstOff(0), 1);
    x.slip(Check.tone(370) - Check.tone(400));
    Check.due("off no more than slip", x.firstOff(1), 2);
    x.slip(Check.tone(370) - Check.tone(400) - 1);
    Check.due("off one more", x.firstOff(1), 1);
    Check.hear(x, -1, -1, Check.tone(300));
    x.slip(0);
    Check.due("what was not heard does not count", x.firstOff(1), -9);
    Check.hear(x, Check.tone(500) + 1);
    Check.due("above", x.firstOff(1), 0);
    Check.hear(x, Check.tone(500) - 1);
    Check.due("below", x.firstOff(1), 0);
    Check.due("in mind alone", x.state(3), 7);
  }

  private static void firstOffEnds() {
    PlateRings x = Check.plain("10");
    x.spin(0, 100, 0);
    Check.hear(x, -1, 9000);
    Check.due("it comes to the tenth at which it ends", x.firstOff(1), -9);
    Check.hear(x, -1, 9000, 9000);
    x.slip(999);
    Check.due("but to none behind", x.firstOff(1), 2);
    Check.hear(x, -1, -1, -1, -1);
    Check.due("none heard", x.firstOff(1), -9);
    x.spin(0, 99, 0);
    Check.hear(x, 820, 9000);
    Check.due("99 ends at tick 10 too", x.firstOff(1), -9);
    x.spin(0, 90, 0);
    Check.hear(x, 900, 9000);
    Check.due("90 ends at tick 9", x.firstOff(1), 1);
  }

  private static void supposed() {
    PlateRings x = Check.plain("3", "1", "2", "3");
    Check.due("no what", x.supposed(2), -2);
    Check.due("no what", x.supposed(-1), -2);
    Check.due("nothing spins", x.supposed(1), -3);
    Check.due("refusals", Check.refused(x), 2100);
    x.spin(0, 100, 0);
    Check.due("an empty row fits all", x.supposed(0), 16);
    Check.due("the set of none", x.supposed(1), 0);
    Check.hear(x, -1, Check.tone(70));
    Check.due("3: {0}, {1, 2}, {3}", x.supposed(0), 3);
    Check.due("the least of the fewest", x.supposed(1), 1);
    Check.hear(x, -1, Check.tone(40));
    Check.due("6: {0, 3}, {0, 1, 2}, {1, 2, 3}", x.supposed(0), 3);
    Check.due("the fewest, not the least", x.supposed(1), 9);
    Check.hear(x, -1, 5);
    Check.due("none", x.supposed(0), 0);
    Check.due("none", x.supposed(1), -9);
    PlateRings y = new PlateRings();
    Check.plate(y, "w1d1");
    y.spin(0, 500, 0);
    Check.due("without losses", y.supposed(0), 1);
    PlateRings all = Check.plain("1", "1", "1", "1", "1", "1", "1", "1");
    all.spin(0, 500, 0);
    Check.due("all of eight", all.supposed(0), 256);
    Check.hear(all, -1, Check.tone(460), -1, Check.tone(380));
    Check.due("four of eight", all.supposed(0), 70);
    Check.due("the least four", all.supposed(1), 15);
  }

  private static void ear() {
    PlateRings x = Check.plain("10");
    Check.plate(x, "w1d1b9");
    Check.plate(x, "w1d1e5b9");
    Check.due("no what", x.ear(3), -2);
    Check.due("no what", x.ear(-1), -2);
    Check.due("nothing spins", x.ear(2), -3);
    Check.due("refusals", Check.refused(x), 2100);
    x.spin(0, 490, 0);
    Check.due("an empty row: the least", x.ear(0), 0);
    Check.due("nothing is false", x.ear(1), 0);
    Check.due("nothing is off", x.ear(2), 0);
    int first = 18 * 109 / 10;
    int second = 22 * 109 / 10;
    Check.hear(x, first, -1, Check.tone(290) * 109 / 100);
    Check.due("the dished one, the least of two", x.ear(0), 1);
    Check.due("not off", x.ear(2), 0);
    Check.due("not false", x.ear(1), 0);
    Check.hear(x, first + 3, second - 4);
    Check.due("still the dished one", x.ear(0), 1);
    Check.due("off by 3 and 4", x.ear(2), 7);
    x.slip(3);
    Check.due("7 is above 2 times 3", x.ear(1), 1);
    x.slip(4);
    Check.due("7 is not above 2 times 4", x.ear(1), 0);
    Check.hear(x, first + 3, second - 4, -1);
    Check.due("what was not heard does not help", x.ear(1), 0);
    x.slip(3);
    Check.due("what was not heard does not help", x.ear(1), 1);
    Check.hear(x, 180);
    Check.due("the plain one", x.ear(0), 0);
  }

  private static void earEnds() {
    PlateRings x = new PlateRings();
    Check.plate(x, "w200d1");
    Check.plate(x, "w100d1");
    Check.rolling(x, "w/10");
    x.spin(1, 200, 0);
    Check.hear(x, -1, 810);
    Check.due("20 a tick lies at tick 10", x.ear(0), 1);
    Check.hear(x, 428, -1, 9000);
    Check.due("10 a tick comes to tick 20", x.ear(0), 1);
    Check.due("off by 0 there and 0, 428 less 420", x.ear(2), 8);
    Check.hear(x, -1, -1, -1, 5, 7);
    Check.due("neither comes there", x.ear(0), 0);
    Check.due("twice 99999", x.ear(2), 199998);
    Check.due("false", x.ear(1), 1);
    x.slip(999);
    Check.due("false by any slip", x.ear(1), 1);
  }

  private static void stagger() {
    PlateRings x = Check.plain("5");
    Check.loss(x, "3", 6, 0, 0);
    Check.due("no loss", x.stagger(2), -1);
    Check.due("no loss", x.stagger(-1), -1);
    Check.due("nothing spins", x.stagger(0), -3);
    Check.due("refusals", Check.refused(x), 20100);
    x.spin(0, 503, 0);
    Check.due("an empty row", x.stagger(0), 0);
    Check.hear(x, Check.tone(503), Check.tone(450), Check.tone(400), Check.tone(320), Check.tone(240));
    Check.due("three a tick more from 20 on", x.stagger(1), 20);
    Check.due("five a tick more do not fit", x.stagger(0), -9);
    Check.hear(x, Check.tone(503), Check.tone(420));
    Check.due("from 0 on", x.stagger(1), 0);
    Check.hear(x, Check.tone(503), Check.tone(450), -1, Check.tone(350));
    Check.due("no sooner than what was heard", x.stagger(1), 30);
    Check.due("losses are as they were", x.count(1), 2);
    Check.due("and take as they did", x.lasts(0, 100, 0, 0), 20);
  }

  private static void staggerEdges() {
    PlateRings x = Check.plain("1");
    Check.loss(x, "4", 3, 0, 0);
    Check.loss(x, "2", 0, 0, 0);
    x.air(false);
    x.spin(0, 300, 0);
    Check.hear(x, -1, Check.tone(250));
    Check.due("by its law, not by its kind", x.stagger(1), 0);
    Check.hear(x, -1, Check.tone(270));
    Check.due("whether or not there is air", x.stagger(2), 0);
    Check.hear(x, -1, Check.tone(290));
    Check.due("behind what was heard", x.stagger(2), 10);
    PlateRings all = Check.plain("1", "1", "1", "1", "1", "1", "1", "1");
    all.spin(0, 500, 0);
    Check.hear(all, -1, Check.tone(420), Check.tone(330));
    Check.due("a ninth loss", all.stagger(3), 10);
    PlateRings last = Check.plain("1");
    last.spin(0, 500, 0);
    int[] row = new int[24];
    for (int i = 0; i < row.length; i++) {
      row[i] = Check.tone(500 - 10 * i);
    }
    Check.hear(last, row);
    Check.due("behind all that was heard", last.stagger(0), 230);
    last.spin(0, 120, 0);
    for (int i = 0; i < 12; i++) {
      row[i] = Check.tone(120 - 10 * i);
    }
    Check.hear(last, java.util.Arrays.copyOf(row, 12));
    Check.due("behind all of twelve", last.stagger(0), 110);
  }
}
