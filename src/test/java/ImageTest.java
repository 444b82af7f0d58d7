/** Promises 34 to 36: image, restore, count. */
public final class ImageTest {
  public static void main(String[] args) {
    imageOfNothing();
    imageOfAll();
    twice();
    count();
    Check.end();
  }

  private static void imageOfNothing() {
    PlateRings x = new PlateRings();
    Check.due("there is none", x.restore(), -3);
    Check.due("refusals", Check.refused(x), 100);
    Check.due("no plates", x.image(), 0);
    Check.plate(x, "w5d5");
    Check.rolling(x, "5");
    x.spin(0, 100, 0);
    x.tick(3);
    Check.due("no plates again", x.restore(), 0);
    Check.due("no plates", x.plateOf(0, 0), -1);
    Check.due("no losses", x.lossOf(0, 0), -1);
    Check.due("nothing spins", x.state(0), -3);
    Check.due("a plate anew", Check.plate(x, "w7d5"), 0);
    Check.due("its weight", x.plateOf(0, 0), 7);
  }

  private static void imageOfAll() {
    PlateRings x = Check.plain("5", "2");
    Check.plate(x, "w9d9");
    x.floor(1, 0, 3);
    x.floor(1, 1, 4);
    x.air(false);
    x.spin(1, 500, 1);
    x.tick(25);
    x.heard(77);
    x.heard(-1);
    x.slip(12);
    x.leg(2, 20);
    x.leg(0, 5);
    Check.feed(x, "w55");
    long rolled = x.rolled();
    Check.due("two plates", x.image(), 2);

    Check.feed(x, "d5");
    Check.due("a third", x.plate(), 2);
    Check.rolling(x, "9");
    x.floor(1, 0, 0);
    x.floor(1, 1, 0);
    x.air(true);
    x.floor(3, 1, 7);
    x.spin(0, 800, 2);
    x.tick(40);
    x.hush();
    x.heard(5);
    x.heard(6);
    x.heard(7);
    x.slip(0);
    x.legs(0, 5);
    x.leg(3, 3);
    x.leg(1, 3);
    Check.feed(x, "xyz");
    x.tick(0);
    int refused = Check.refused(x);

    Check.due("two plates again", x.restore(), 2);
    Check.due("the text is not of it", x.count(5), 3);
    Check.due("refusals are not of it", Check.refused(x), refused);
    Check.due("plates", x.count(0), 2);
    Check.due("no third", x.plateOf(2, 0), -1);
    Check.due("losses", x.count(1), 2);
    Check.due("took", x.lossOf(0, 3), 125);
    Check.due("took", x.lossOf(1, 3), 50);
    Check.due("air", x.count(6), 0);
    int[] want = {1, 325, 9000 / 335 * 10, 25, 0, 1, 3};
    for (int what = 0; what < want.length; what++) {
      Check.due("state(" + what + ")", x.state(what), want[what]);
    }
    Check.due("rolled", x.rolled(), rolled);
    Check.due("tenth", x.tenth(0, 0), 500);
    Check.due("tenth", x.tenth(2, 0), 360);
    Check.due("tenth", x.tenth(1, 1), 9000 / 440 * 10);
    Check.due("no more tenths", x.tenth(3, 1), -9);
    Check.due("tones", x.count(2), 2);
    Check.due("heard", x.count(3), 1);
    Check.due("first off by what was heard", x.firstOff(3), 0);
    Check.due("how far: 77 less 170", x.ear(2), 93);
    Check.due("legs", x.count(4), 2);
    Check.due("slip", x.slip(5), 12);
    Check.due("hard", x.floor(1, 0, 9), 3);
    Check.due("tilt", x.floor(1, 1, 9), 4);
    Check.due("it goes on from where it was", x.tick(5), 0);
    Check.due("lean", x.state(1), 290);
    Check.due("its beginning is its own", x.ahead(0, 3, 0), 72);
    x.plate();
    Check.rolling(x, "k");
    x.floor(3, 1, 9);
    x.floor(0, 1, 3);
    Check.due("legs are their own: 20 by seven, 6 by ten", x.legs(0, 200), 26);
  }

  private static void twice() {
    PlateRings x = Check.plain("5");
    x.spin(0, 500, 0);
    x.heard(60);
    x.image();
    for (int i = 0; i < 2; i++) {
      x.tick(10);
      x.heard(70);
      Check.due("restored", x.restore(), 1);
      Check.due("tick", x.state(3), 0);
      Check.due("tenths", x.state(6), 1);
      Check.due("tones", x.count(2), 1);
    }
    x.tick(10);
    x.image();
    x.tick(10);
    Check.plate(x, "w1d1");
    x.restore();
    Check.due("the newer image", x.state(3), 10);
    Check.due("tenths", x.state(6), 2);
    Check.due("plates", x.count(0), 1);
  }

  private static void count() {
    PlateRings x = Check.plain("5");
    Check.due("plates", x.count(0), 1);
    Check.due("losses", x.count(1), 1);
    x.plateOf(9, 9);
    x.plateOf(0, 9);
    x.plateOf(0, 9);
    for (int i = 0; i < 3; i++) {
      x.tick(1);
    }
    for (int i = 0; i < 4; i++) {
      x.slip(-1);
    }
    for (int i = 0; i < 6; i++) {
      x.slip(1000);
    }
    int[] want = {1, 2, 3, 4, 0, 6};
    for (int i = 0; i < want.length; i++) {
      Check.due("count(" + (11 + i) + ")", x.count(11 + i), want[i]);
    }
    for (int what : new int[] {-1, 7, 8, 9, 10, 17, 18, Integer.MAX_VALUE, Integer.MIN_VALUE}) {
      Check.due("count(" + what + ")", x.count(what), -9);
    }
    Check.due("-9 is no refusal", Check.refused(x), 12346);
  }
}
