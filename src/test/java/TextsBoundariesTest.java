/** Boundary cases of promises 1 to 8 and of part I of the Terms, each under the document's own words. */
public final class TextsBoundariesTest {
  private static final int MOST = Integer.MAX_VALUE;
  private static final int LEAST = Integer.MIN_VALUE;

  public static void main(String[] args) {
    fiveHundredTwelveCalls();
    newObject();
    newFloorsAndAir();
    feedN();
    feedLowestFirst();
    feedAboveTwenty();
    plateHasNoTextThen();
    plateFaultCountsNothing();
    plateSix();
    weight();
    width();
    edgeHoleDish();
    order();
    digits();
    notTold();
    lacking();
    tooGreat();
    plateOf();
    lossKind();
    lossFromTo();
    lossEight();
    lossEarly();
    lossLikewise();
    plateTwentyBytes();
    lossOf();
    floors();
    floorValues();
    air();
    Check.end();
  }

  private static void fiveHundredTwelveCalls() {
    Check.by("An object is used for at most 512 calls after it has been made");
    PlateRings x = new PlateRings();
    for (int i = 1; i < 512; i++) {
      Check.due("slip(-1), call " + i, x.slip(-1), -4);
    }
    Check.due("count(14), call 512", x.count(14), 511);
    PlateRings y = new PlateRings();
    for (int i = 1; i < 511; i += 2) {
      Check.feed(y, "?");
      Check.due("plate() of ?, call " + (i + 1), y.plate(), -20);
    }
    Check.due("count(0)", y.count(0), 0);
  }

  private static void newObject() {
    Check.by("No PLATES, no LOSSES; nothing spins.");
    PlateRings x = new PlateRings();
    for (int what = 0; what <= 5; what++) {
      Check.due("count(" + what + ")", x.count(what), 0);
    }
    for (int what = 11; what <= 16; what++) {
      Check.due("count(" + what + ")", x.count(what), 0);
    }
    Check.due("plateOf(0, 0)", x.plateOf(0, 0), -1);
    Check.due("lossOf(0, 0)", x.lossOf(0, 0), -1);
    Check.due("state(0)", x.state(0), -3);
    Check.due("rolled()", x.rolled(), -3);
    Check.due("the set of none is there, but nothing spins", x.firstOff(0), -3);
    Check.due("no set with a loss is", x.firstOff(1), -1);
    Check.due("longest(999, 9000, 3)", x.longest(999, 9000, 3), -9);
    Check.due("hush()", x.hush(), 0);
    Check.due("image()", new PlateRings().image(), 0);
    Check.due("the TEXT is empty", x.plate(), -20);
    Check.due("the TEXT is empty", x.loss(0, 0, 0), -20);
    Check.due("another object is not touched", new PlateRings().count(11), 0);
  }

  private static void newFloorsAndAir() {
    Check.by("FLOORS 0 .. 3 each have HARD (0 .. 9; 9 at first) and TILT (0 .. 9; 0 at first). AIR is on (at first) or off.");
    PlateRings x = new PlateRings();
    for (int floor = 0; floor <= 3; floor++) {
      Check.due("HARD of " + floor, x.floor(floor, 0, 0), 9);
      Check.due("TILT of " + floor, x.floor(floor, 1, 9), 0);
      Check.due("HARD 0 of " + floor, x.floor(floor, 0, 9), 0);
      Check.due("TILT 9 of " + floor, x.floor(floor, 1, 0), 9);
    }
    Check.due("AIR", x.count(6), 1);
    Check.due("air(true)", x.air(true), 0);
  }

  private static void feedN() {
    Check.by("n (1 .. 8) bytes come to the TEXT");
    PlateRings x = new PlateRings();
    Check.due("feed 0", x.feed(0, -1L), -4);
    Check.due("feed -1", x.feed(-1, -1L), -4);
    Check.due("feed least", x.feed(LEAST, -1L), -4);
    Check.due("feed 9", x.feed(9, -1L), -6);
    Check.due("feed most", x.feed(MOST, -1L), -6);
    Check.due("feed most but 20", x.feed(MOST - 19, -1L), -6);
    Check.due("nothing came", x.count(5), 0);
    Check.due("feed 1", x.feed(1, 0L), 1);
    Check.due("feed 8", x.feed(8, 0L), 9);
    Check.due("BELOW", x.count(14), 3);
    Check.due("ROOM", x.count(16), 3);
  }

  private static void feedLowestFirst() {
    Check.by("the lowest first: how many it has.");
    PlateRings x = new PlateRings();
    Check.due("all eight", x.feed(8, 0x3662_3568_3564_3177L), 8);
    Check.due("w1d5h5b6", x.plate(), 0);
    Check.due("WEIGHT", x.plateOf(0, 0), 1);
    Check.due("WIDTH", x.plateOf(0, 1), 5);
    Check.due("HOLE", x.plateOf(0, 3), 5);
    Check.due("DISH", x.plateOf(0, 4), 6);
    Check.due("what stands above does not come", x.feed(4, 0xffff_ffff_3264_3377L), 4);
    Check.due("w3d2", x.plate(), 1);
    Check.due("a sign is no other byte's", x.feed(1, -1L), 1);
    Check.due("byte 255", x.plate(), -20);
    for (int i = 0; i < 8; i++) {
      Check.due("byte 128 in place " + i, x.feed(i + 1, 0x3232_3232_3232_3232L & (1L << 8 * i) - 1 | 128L << 8 * i), i + 1);
      Check.due("its FAULT", x.loss(1, 0, 0), -20 - Math.min(i, 3));
    }
  }

  private static void feedAboveTwenty() {
    Check.by("-6 (above 20, too).");
    for (int n = 1; n <= 8; n++) {
      PlateRings x = new PlateRings();
      Check.feed(x, "1+1+1+1+1+1+1+1+1+1+".substring(0, 21 - n));
      Check.due("feed " + n + " to " + (21 - n), x.feed(n, 0x3131_3131_3131_3131L), -6);
      Check.due("it has as many as before", x.count(5), 21 - n);
      Check.due("one fewer has room", n == 1 ? 20 : x.feed(n - 1, 0x2f31_2f31_2f31_2f31L), 20);
      Check.due("now it is full", x.feed(1, '1'), -6);
      Check.due("below ahead of full", x.feed(0, '1'), -4);
      Check.due("ROOM", x.count(16), 2);
    }
    PlateRings x = new PlateRings();
    Check.feed(x, "1+1+1+1+1+1+1+1+1+1+");
    Check.due("the 20 are its bytes: something lacks", x.loss(1, 0, 0), -40);
    Check.due("there is room again", x.feed(8, 0L), 8);
  }

  private static void plateHasNoTextThen() {
    Check.by("The TEXT, which has none then, becomes a PLATE: its number");
    PlateRings x = new PlateRings();
    for (int i = 0; i < 6; i++) {
      Check.due("plate " + i, Check.plate(x, "w" + (i + 1) + "d1"), i);
      Check.due("bytes", x.count(5), 0);
      Check.due("plates", x.count(0), i + 1);
    }
    for (int i = 0; i < 6; i++) {
      Check.due("WEIGHT of " + i, x.plateOf(i, 0), i + 1);
    }
  }

  private static void plateFaultCountsNothing() {
    Check.by("or, if it has a FAULT, -20 less its place (nothing is counted).");
    PlateRings x = new PlateRings();
    Check.due("empty", x.plate(), -20);
    Check.due("a FAULT in place 1", Check.plate(x, "wx"), -21);
    Check.due("it has none then", x.count(5), 0);
    Check.due("full, of a number too great its first digit", Check.plate(x, "w999d99e9h9b99999999"), -32);
    Check.due("full, what stands behind a PLATE", Check.plate(x, "w999d99e9h9b9wwwwwww"), -33);
    Check.due("it has none then", x.count(5), 0);
    Check.due("no PLATE came", x.count(0), 0);
    for (int what = 11; what <= 16; what++) {
      Check.due("count(" + what + ")", x.count(what), 0);
    }
  }

  private static void plateSix() {
    Check.by("-6 6 (it stays).");
    PlateRings x = new PlateRings();
    for (int i = 0; i < 6; i++) {
      Check.plate(x, "w5d5");
    }
    Check.due("an empty TEXT", x.plate(), -6);
    Check.feed(x, "w6d6");
    Check.due("a good TEXT", x.plate(), -6);
    Check.due("it stays", x.count(5), 4);
    Check.feed(x, "?");
    Check.due("a TEXT with a FAULT", x.plate(), -6);
    Check.due("it stays", x.count(5), 5);
    Check.due("still six", x.count(0), 6);
    Check.due("ROOM", x.count(16), 3);
    Check.due("it can become a LOSS, with its FAULT", x.loss(1, 0, 0), -21);
    Check.by("PLATES 0 .. 5 as they come");
    Check.due("the last", x.plateOf(5, 0), 5);
    Check.due("none behind", x.plateOf(6, 0), -1);
  }

  private static void isPlate(String text, int weight, int width, int edge, int hole, int dish) {
    PlateRings x = new PlateRings();
    Check.due("plate " + text, Check.plate(x, text), 0);
    int[] want = {weight, width, edge, hole, dish};
    for (int what = 0; what < 5; what++) {
      Check.due("plateOf(0, " + what + ") of " + text, x.plateOf(0, what), want[what]);
    }
  }

  private static void noPlate(String text, int place) {
    PlateRings x = new PlateRings();
    Check.due("plate " + text, Check.plate(x, text), -20 - place);
    Check.due("plates behind " + text, x.count(0), 0);
    Check.due("bytes behind " + text, x.count(5), 0);
    Check.due("refusals behind " + text, Check.refused(x), 0);
  }

  private static void weight() {
    Check.by("\"w\" WEIGHT (1 .. 999)");
    noPlate("w0d5", 1);
    isPlate("w1d5", 1, 5, 0, 0, 0);
    isPlate("w999d5", 999, 5, 0, 0, 0);
    noPlate("w1000d5", 4);
    noPlate("w-1d5", 1);
    noPlate("5d5", 0);
  }

  private static void width() {
    Check.by("\"d\" WIDTH (1 .. 99)");
    noPlate("w5d0", 3);
    noPlate("w5d0e1", 3);
    isPlate("w5d1", 5, 1, 0, 0, 0);
    isPlate("w5d99", 5, 99, 0, 0, 0);
    noPlate("w5d100", 3);
    noPlate("w5d999", 3);
    noPlate("w555d100", 5);
  }

  private static void edgeHoleDish() {
    Check.by("perhaps \"e\" EDGE (0 .. 9), perhaps \"h\" HOLE (0 .. 9), perhaps \"b\" DISH (0 .. 9)");
    for (String name : new String[] {"e", "h", "b"}) {
      int e = name.equals("e") ? 9 : 0;
      int h = name.equals("h") ? 9 : 0;
      int b = name.equals("b") ? 9 : 0;
      isPlate("w5d5" + name + "0", 5, 5, 0, 0, 0);
      isPlate("w5d5" + name + "9", 5, 5, e, h, b);
      noPlate("w5d5" + name + "10", 5);
      noPlate("w5d5" + name + "99", 5);
      noPlate("w5d5" + name + "999", 5);
      noPlate("w5d5" + name + "-1", 5);
    }
    isPlate("w999d99e9h9b9", 999, 99, 9, 9, 9);
    isPlate("w1d1e0h0b0", 1, 1, 0, 0, 0);
  }

  private static void order() {
    Check.by("in this order");
    noPlate("d5w5", 0);
    noPlate("e5w5d5", 0);
    noPlate("w5e5d5", 2);
    noPlate("w5d5h1e1", 6);
    noPlate("w5d5b1e1", 6);
    noPlate("w5d5b1h1", 6);
    noPlate("w5d5e1b1h1", 8);
    noPlate("w5w5d5", 2);
    noPlate("w5d5d5", 4);
    noPlate("w5d5e1e1", 6);
    noPlate("w5d5h1h1", 6);
    noPlate("w5d5b1b1", 6);
    noPlate("w5d5e1h1b1w", 10);
  }

  private static void digits() {
    Check.by("numbers have 1 to 3 digits, no 0 ahead of another");
    noPlate("w1234d5", 4);
    noPlate("w9999d5", 4);
    noPlate("w01d5", 1);
    noPlate("w00d5", 1);
    noPlate("w5d01", 3);
    noPlate("w5d5e00", 6);
    noPlate("w5d5h05", 6);
    noPlate("w5d5b09", 6);
    isPlate("w100d10", 100, 10, 0, 0, 0);
    isPlate("w101d90", 101, 90, 0, 0, 0);
    noPlate("w:d5", 1);
    noPlate("w/d5", 1);
    noPlate("w5:d5", 2);
  }

  private static void notTold() {
    Check.by("what is not told of the last three is 0.");
    isPlate("w5d5", 5, 5, 0, 0, 0);
    isPlate("w5d5h7", 5, 5, 0, 7, 0);
    isPlate("w5d5e7b8", 5, 5, 7, 0, 8);
    isPlate("w5d5h7b8", 5, 5, 0, 7, 8);
    PlateRings x = new PlateRings();
    Check.plate(x, "w5d5e1h2b3");
    Check.plate(x, "w5d5");
    for (int what = 2; what < 5; what++) {
      Check.due("nor what another was told", x.plateOf(1, what), 0);
    }
  }

  private static void lacking() {
    Check.by("the place of the first byte that can not stand (the end, if something lacks");
    noPlate("", 0);
    noPlate("w", 1);
    noPlate("w999", 4);
    noPlate("w999d", 5);
    noPlate("w5d5e", 5);
    noPlate("w5d5h", 5);
    noPlate("w5d5b", 5);
    noPlate("w999d99e9h9b", 12);
    noPlate("w5d5 ", 4);
    noPlate(" w5d5", 0);
    noPlate("w5d5" + (char) 0, 4);
    noPlate("w5d5" + (char) 255, 4);
    noPlate((char) 247 + "5d5", 0);
    noPlate("w" + (char) 181 + "d5", 1);
    noPlate("W5d5", 0);
    noPlate("w5D5", 2);
  }

  private static void tooGreat() {
    Check.by("of a number too great, or 0 where that can not be, its first digit).");
    noPlate("w5d100e5", 3);
    noPlate("w5d5e10h5", 5);
    noPlate("w5d5e5h10", 7);
    noPlate("w5d5e5h5b10", 9);
    noPlate("w5d5e5h5b10?", 9);
    noPlate("w0", 1);
    noPlate("w0?", 1);
    noPlate("w5d0?", 3);
    noPlate("w5d1000", 3);
  }

  private static void plateOf() {
    Check.by("0 WEIGHT, 1 WIDTH, 2 EDGE, 3 HOLE, 4 DISH. -1; -2.");
    PlateRings x = Check.plain();
    for (int plate : new int[] {-1, 1, 5, 6, MOST, LEAST}) {
      Check.due("plateOf(" + plate + ", 0)", x.plateOf(plate, 0), -1);
      Check.due("plateOf(" + plate + ", 5)", x.plateOf(plate, 5), -1);
    }
    for (int what : new int[] {-1, 5, MOST, LEAST}) {
      Check.due("plateOf(0, " + what + ")", x.plateOf(0, what), -2);
    }
    Check.due("NOBODY", x.count(11), 12);
    Check.due("OTHER", x.count(12), 4);
  }

  private static void lossKind() {
    Check.by("The TEXT becomes a LOSS's LAW likewise: its number. -1 KIND");
    PlateRings x = new PlateRings();
    Check.feed(x, "5");
    for (int kind : new int[] {-1, 7, MOST, LEAST}) {
      Check.due("kind " + kind, x.loss(kind, 0, 0), -1);
      Check.due("kind " + kind + ", all else wrong", x.loss(kind, -1, 10000), -1);
    }
    Check.due("it stays", x.count(5), 1);
    Check.due("NOBODY", x.count(11), 8);
    for (int kind = 0; kind <= 6; kind++) {
      Check.due("kind " + kind, x.loss(kind, 0, 0), kind);
      Check.due("its kind", x.lossOf(kind, 0), kind);
      Check.due("bytes", x.count(5), 0);
      Check.feed(x, "5");
    }
  }

  private static void lossFromTo() {
    Check.by("-4 (FROM, TO below 0); -6 (above 9999;");
    PlateRings x = new PlateRings();
    Check.feed(x, "5");
    int[][] below = {{-1, 0}, {0, -1}, {-1, -1}, {LEAST, 0}, {0, LEAST}, {-1, 10000}, {10000, -1}};
    for (int[] v : below) {
      for (int kind = 0; kind <= 6; kind++) {
        Check.due("loss(" + kind + ", " + v[0] + ", " + v[1] + ")", x.loss(kind, v[0], v[1]), -4);
      }
    }
    int[][] above = {{10000, 0}, {0, 10000}, {10000, 10000}, {MOST, 0}, {0, MOST}, {10000, 9999}};
    for (int[] v : above) {
      for (int kind = 0; kind <= 6; kind++) {
        Check.due("loss(" + kind + ", " + v[0] + ", " + v[1] + ")", x.loss(kind, v[0], v[1]), -6);
      }
    }
    Check.due("BELOW", x.count(14), 49);
    Check.due("ROOM", x.count(16), 42);
    Check.due("it stays", x.count(5), 1);
    Check.due("no LOSS", x.count(1), 0);
    Check.due("greatest", x.loss(1, 9999, 9999), 0);
    Check.due("FROM", x.lossOf(0, 1), 9999);
    Check.due("TO", x.lossOf(0, 2), 9999);
    Check.feed(x, "5");
    Check.by("each of a KIND with a LAW and a FROM, TO (TICKS 0 .. 9999).");
    Check.due("least and greatest", x.loss(6, 0, 9999), 1);
    Check.due("FROM", x.lossOf(1, 1), 0);
    Check.due("TO", x.lossOf(1, 2), 9999);
  }

  private static void lossEight() {
    Check.by("8, too: it stays)");
    PlateRings x = new PlateRings();
    for (int i = 0; i < 8; i++) {
      Check.due("loss " + i, Check.rolling(x, "" + i), i);
    }
    Check.due("an empty TEXT", x.loss(0, 0, 0), -6);
    Check.feed(x, "5");
    Check.due("a good TEXT", x.loss(0, 0, 0), -6);
    Check.feed(x, "?");
    Check.due("a TEXT with a FAULT", x.loss(0, 0, 0), -6);
    Check.due("ahead of EARLY's FROM", x.loss(6, 1, 0), -6);
    Check.due("behind KIND", x.loss(7, 0, 0), -1);
    Check.due("behind BELOW", x.loss(6, 1, -1), -4);
    Check.due("it stays", x.count(5), 2);
    Check.due("still eight", x.count(1), 8);
    Check.by("LOSSES 0 .. 7 as they come");
    Check.due("the last", x.lossOf(7, 0), 1);
    Check.due("none behind", x.lossOf(8, 0), -1);
  }

  private static void lossEarly() {
    Check.by("-3 an EARLY one's FROM above its TO (it stays).");
    PlateRings x = new PlateRings();
    Check.feed(x, "5");
    Check.due("1 above 0", x.loss(6, 1, 0), -3);
    Check.due("9999 above 9998", x.loss(6, 9999, 9998), -3);
    Check.due("ahead of a FAULT", x.feed(1, '?') == 2 ? x.loss(6, 1, 0) : 0, -3);
    Check.due("it stays", x.count(5), 2);
    Check.due("STATE", x.count(13), 3);
    Check.due("its FAULT", x.loss(6, 0, 0), -21);
    Check.by("An EARLY one's FROM is no more than its TO.");
    for (int kind = 0; kind < 6; kind++) {
      Check.due("others' may be", Check.loss(x, "5", kind, 9999, 0), kind);
      Check.due("FROM", x.lossOf(kind, 1), 9999);
      Check.due("TO", x.lossOf(kind, 2), 0);
    }
    Check.due("as much as its TO", Check.loss(x, "5", 6, 7, 7), 6);
  }

  private static void lossLikewise() {
    Check.by("A LAW is read from a TEXT (20 bytes at most)");
    PlateRings x = new PlateRings();
    Check.due("empty", x.loss(1, 0, 0), -20);
    Check.due("nothing is counted", Check.refused(x), 0);
    Check.due("20 bytes", Check.rolling(x, "(1+1+1+1+1)+1+1+1+10"), 0);
    Check.due("of 20 the last can not stand", Check.rolling(x, "1+1+1+1+1+1+1+1+1+1l"), -39);
    Check.due("of 20 the end can not be", Check.rolling(x, "1+1+1+1+1+1+1+1+1+1*"), -40);
    Check.due("the TEXT has none then", x.count(5), 0);
    Check.due("one LOSS", x.count(1), 1);
    Check.due("nothing is counted", Check.refused(x), 0);
    Check.plate(x, "w1d1");
    Check.due("it takes", x.takes(0, 0, 0, 0, 0), 18);
  }

  private static void plateTwentyBytes() {
    Check.by("each read from a TEXT (20 bytes at most)");
    PlateRings x = new PlateRings();
    Check.feed(x, "w1d1e2h3b4zzzzzzzzzz");
    Check.due("20", x.count(5), 20);
    Check.due("no more", x.feed(1, 'z'), -6);
    Check.due("the eleventh can not stand", x.plate(), -30);
    Check.due("the longest", Check.plate(x, "w100d10e0h0b0"), 0);
    Check.due("the shortest", Check.plate(x, "w1d1"), 1);
  }

  private static void lossOf() {
    Check.by("0 KIND, 1 FROM, 2 TO, 3 TOOK. -1; -2.");
    PlateRings x = Check.plain("5");
    for (int loss : new int[] {-1, 1, 7, 8, MOST, LEAST}) {
      Check.due("lossOf(" + loss + ", 0)", x.lossOf(loss, 0), -1);
      Check.due("lossOf(" + loss + ", 4)", x.lossOf(loss, 4), -1);
    }
    for (int what : new int[] {-1, 4, MOST, LEAST}) {
      Check.due("lossOf(0, " + what + ")", x.lossOf(0, what), -2);
    }
    Check.due("NOBODY", x.count(11), 12);
    Check.due("OTHER", x.count(12), 4);
    Check.due("TOOK while nothing has spun", x.lossOf(0, 3), 0);
  }

  private static void floors() {
    Check.by("HARD (what 0), TILT (1): what it was. -1; -2; -4; -6.");
    PlateRings x = new PlateRings();
    for (int floor : new int[] {-1, 4, MOST, LEAST}) {
      Check.due("floor(" + floor + ", 0, 0)", x.floor(floor, 0, 0), -1);
      Check.due("floor(" + floor + ", 2, -1)", x.floor(floor, 2, -1), -1);
    }
    for (int what : new int[] {-1, 2, MOST, LEAST}) {
      Check.due("floor(0, " + what + ", 0)", x.floor(0, what, 0), -2);
      Check.due("floor(0, " + what + ", -1)", x.floor(0, what, -1), -2);
      Check.due("floor(0, " + what + ", 10)", x.floor(0, what, 10), -2);
    }
    Check.due("NOBODY", x.count(11), 8);
    Check.due("OTHER", x.count(12), 12);
  }

  private static void floorValues() {
    Check.by("HARD (0 .. 9; 9 at first) and TILT (0 .. 9; 0 at first)");
    PlateRings x = new PlateRings();
    for (int floor = 0; floor <= 3; floor++) {
      for (int what = 0; what <= 1; what++) {
        Check.due("to " + (3 + floor), x.floor(floor, what, 3 + floor), what == 0 ? 9 : 0);
        Check.due("-1", x.floor(floor, what, -1), -4);
        Check.due("least", x.floor(floor, what, LEAST), -4);
        Check.due("10", x.floor(floor, what, 10), -6);
        Check.due("most", x.floor(floor, what, MOST), -6);
        Check.due("it stayed", x.floor(floor, what, 0), 3 + floor);
        Check.due("0", x.floor(floor, what, 9), 0);
        Check.due("9", x.floor(floor, what, what), 9);
      }
    }
    for (int floor = 0; floor <= 3; floor++) {
      Check.due("each floor's own HARD", x.floor(floor, 0, 0), 0);
      Check.due("each floor's own TILT", x.floor(floor, 1, 0), 1);
    }
  }

  private static void air() {
    Check.by("AIR on, or off: 1; 0 it was so.");
    PlateRings x = new PlateRings();
    Check.due("on, on", x.air(true), 0);
    Check.due("on, off", x.air(false), 1);
    Check.due("count(6)", x.count(6), 0);
    Check.due("off, off", x.air(false), 0);
    Check.due("count(6)", x.count(6), 0);
    Check.due("off, on", x.air(true), 1);
    Check.due("count(6)", x.count(6), 1);
  }
}
