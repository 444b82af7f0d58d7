/** Boundary cases of promises 34 to 36, each under the document's own words. */
public final class ImageBoundariesTest {
  private static final int MOST = Integer.MAX_VALUE;
  private static final int LEAST = Integer.MIN_VALUE;

  public static void main(String[] args) {
    imageOfNone();
    imageOfSix();
    noImage();
    butIt();
    butText();
    butRefusals();
    fullThings();
    spinsOrNot();
    ownCopies();
    counts();
    countsRefusals();
    countsOther();
    Check.end();
  }

  private static void imageOfNone() {
    Check.by("THE IMAGE is taken: how many PLATES.");
    PlateRings x = new PlateRings();
    Check.due("none", x.image(), 0);
    Check.plate(x, "w1d1");
    Check.due("one", x.image(), 1);
    Check.due("one again", x.image(), 1);
    Check.due("it is as it was", x.count(0), 1);
  }

  private static void imageOfSix() {
    Check.by("It is RESTORED: how many PLATES.");
    PlateRings x = new PlateRings();
    x.image();
    for (int i = 0; i < 6; i++) {
      Check.plate(x, "w" + (i + 1) + "d1");
    }
    Check.due("none again", x.restore(), 0);
    Check.due("no PLATE", x.plateOf(0, 0), -1);
    Check.due("there is room again", Check.plate(x, "w9d1"), 0);
    Check.due("WEIGHT", x.plateOf(0, 0), 9);
    for (int i = 1; i < 6; i++) {
      Check.plate(x, "w" + (i + 9) + "d1");
    }
    Check.due("six", x.image(), 6);
    Check.due("six again", x.restore(), 6);
    Check.due("the last", x.plateOf(5, 0), 14);
    Check.due("no room", Check.plate(x, "w1d1"), -6);
  }

  private static void noImage() {
    Check.by("-3 there is none.");
    PlateRings x = Check.plain("1");
    Check.due("none", x.restore(), -3);
    Check.due("none still", x.restore(), -3);
    Check.due("STATE", x.count(13), 2);
    Check.due("nothing changed", x.count(0), 1);
    x.image();
    Check.due("one", x.restore(), 1);
    Check.due("it stays", x.restore(), 1);
    Check.due("STATE", x.count(13), 2);
  }

  private static void butIt() {
    Check.by("THE IMAGE: all that there is, but it, the TEXT, REFUSALS.");
    PlateRings x = Check.plain("1");
    x.image();
    Check.plate(x, "w2d2");
    x.image();
    Check.plate(x, "w3d3");
    Check.due("the newer one", x.restore(), 2);
    Check.due("it is there still, not the one ahead", x.restore(), 2);
  }

  private static void butText() {
    Check.by("but it, the TEXT, REFUSALS.");
    PlateRings x = new PlateRings();
    Check.feed(x, "w7");
    x.image();
    Check.feed(x, "d5");
    x.restore();
    Check.due("bytes", x.count(5), 4);
    Check.due("w7d5", x.plate(), 0);
    Check.due("WEIGHT", x.plateOf(0, 0), 7);
    x.restore();
    Check.due("bytes that became a PLATE do not come back", x.count(5), 0);
    Check.feed(x, "12345678901234567890");
    x.image();
    x.restore();
    Check.due("full", x.feed(1, '1'), -6);
  }

  private static void butRefusals() {
    Check.by("THE IMAGE: all that there is, but it, the TEXT, REFUSALS.");
    PlateRings x = new PlateRings();
    x.slip(-1);
    x.image();
    x.slip(-1);
    x.tick(1);
    x.restore();
    Check.due("BELOW", x.count(14), 2);
    Check.due("STATE", x.count(13), 1);
    x.slip(-1);
    x.restore();
    Check.due("BELOW", x.count(14), 3);
  }

  private static void fullThings() {
    Check.by("THE IMAGE: all that there is");
    PlateRings x = Check.plain("1", "2", "3", "4", "5", "6", "7", "8");
    x.spin(0, 9000, 3);
    for (int i = 0; i < 24; i++) {
      x.heard(1000 + i);
    }
    for (int i = 0; i < 4; i++) {
      x.leg(i, i + 1);
      x.floor(i, 0, i);
      x.floor(i, 1, i + 5);
    }
    x.slip(999);
    x.air(false);
    x.tick(200);
    x.image();
    x.spin(0, 5, 0);
    x.tick(9);
    x.hush();
    x.legs(0, 5);
    x.slip(0);
    x.air(true);
    for (int i = 0; i < 4; i++) {
      x.floor(i, 0, 9);
      x.floor(i, 1, 0);
    }
    Check.due("restored", x.restore(), 1);
    Check.due("LOSSES", x.count(1), 8);
    Check.due("tones", x.count(2), 24);
    Check.due("heard", x.count(3), 24);
    Check.due("LEGS", x.count(4), 4);
    Check.due("AIR", x.count(6), 0);
    Check.due("SLIP", x.slip(5), 999);
    Check.due("no room for a tone", x.heard(5), -6);
    Check.due("no room for a LEG", x.leg(0, 5), -6);
    Check.due("no room for a LOSS", Check.rolling(x, "1"), -6);
    Check.due("LEAN", x.state(1), 9000 - 36 * 200);
    Check.due("TENTHS", x.state(6), 21);
    Check.due("the last TENTH", x.tenth(20, 0), 1800);
    Check.due("the first TENTH", x.tenth(0, 0), 9000);
    Check.due("FLOOR", x.state(5), 3);
    for (int i = 0; i < 8; i++) {
      Check.due("TOOK of " + i, x.lossOf(i, 3), 200 * (i + 1));
    }
    for (int i = 0; i < 4; i++) {
      Check.due("HARD", x.floor(i, 0, 0), i);
      Check.due("TILT", x.floor(i, 1, 0), i + 5);
    }
    Check.due("its beginning", x.ahead(0, 255, 0), 250);
  }

  private static void spinsOrNot() {
    Check.by("It is RESTORED: how many PLATES. -3 there is none.");
    PlateRings x = Check.plain("1");
    x.image();
    x.spin(0, 100, 0);
    x.tick(20);
    x.restore();
    Check.due("nothing spins", x.state(0), -3);
    Check.due("nothing spins", x.tick(1), -3);
    Check.due("nothing spins", x.rolled(), -3);
    Check.due("nothing was taken", x.lossOf(0, 3), 0);
    x.spin(0, 3, 0);
    x.tick(9);
    x.image();
    x.spin(0, 100, 0);
    x.restore();
    Check.due("it had ended", x.state(4), 1);
    Check.due("it does so still", x.tick(5), 1);
    Check.due("TICK", x.state(3), 3);
  }

  private static void ownCopies() {
    Check.by("THE IMAGE is taken");
    PlateRings x = Check.plain("1");
    x.spin(0, 100, 0);
    x.heard(5);
    x.leg(1, 7);
    x.image();
    for (int i = 0; i < 3; i++) {
      x.tick(30);
      x.heard(6);
      x.leg(2, 8);
      x.floor(0, 1, 5);
      Check.plate(x, "w5d5");
      Check.rolling(x, "5");
      Check.due("restored, time " + i, x.restore(), 1);
      Check.due("TICK", x.state(3), 0);
      Check.due("TOOK", x.lossOf(0, 3), 0);
      Check.due("ROLLED", x.rolled(), 0);
      Check.due("TENTHS", x.state(6), 1);
      Check.due("tones", x.count(2), 1);
      Check.due("LEGS", x.count(4), 1);
      Check.due("LOSSES", x.count(1), 1);
      Check.due("TILT", x.floor(0, 1, 0), 0);
    }
    Check.rolling(x, "2");
    Check.due("what another LOSS took is not this one's", x.lossOf(1, 3), 0);
  }

  private static void counts() {
    Check.by("0 PLATES, 1 LOSSES, 2 tones of the ROW, 3 of them heard, 4 LEGS, 5 bytes of the TEXT, 6 AIR (1, 0)");
    PlateRings x = new PlateRings();
    int[] none = {0, 0, 0, 0, 0, 0, 1};
    for (int what = 0; what < 7; what++) {
      Check.due("at first count(" + what + ")", x.count(what), none[what]);
    }
    for (int i = 0; i < 6; i++) {
      Check.plate(x, "w1d1");
    }
    for (int i = 0; i < 8; i++) {
      Check.rolling(x, "1");
    }
    for (int i = 0; i < 24; i++) {
      x.heard(i < 3 ? -1 : 0);
    }
    for (int i = 0; i < 4; i++) {
      x.leg(0, 1);
    }
    Check.feed(x, "12345678901234567890");
    x.air(false);
    int[] full = {6, 8, 24, 21, 4, 20, 0};
    for (int what = 0; what < 7; what++) {
      Check.due("full count(" + what + ")", x.count(what), full[what]);
    }
  }

  private static void countsRefusals() {
    Check.by("11 .. 16 REFUSALS -1 .. -6.");
    PlateRings x = Check.plain();
    for (int i = 0; i < 5; i++) {
      x.plateOf(9, 9);
      Check.due("NOBODY", x.count(11), i + 1);
      x.plateOf(0, 9);
      Check.due("OTHER", x.count(12), i + 1);
      x.tick(0);
      Check.due("STATE", x.count(13), i + 1);
      x.slip(-1);
      Check.due("BELOW", x.count(14), i + 1);
      Check.due("-5 is none", x.count(15), 0);
      x.slip(1000);
      Check.due("ROOM", x.count(16), i + 1);
    }
    Check.due("-9 is none of them", x.longest(0, 0, 0), -9);
    Check.due("a FAULT is none of them", x.plate(), -20);
    Check.due("refusals", Check.refused(x), 55555);
  }

  private static void countsOther() {
    Check.by("-9 for another what.");
    PlateRings x = new PlateRings();
    for (int what : new int[] {-1, 7, 8, 9, 10, 17, 18, 100, -11, LEAST, LEAST + 10, LEAST + 11, MOST, MOST - 1}) {
      Check.due("count(" + what + ")", x.count(what), -9);
    }
    Check.due("it is no refusal", Check.refused(x), 0);
  }
}
