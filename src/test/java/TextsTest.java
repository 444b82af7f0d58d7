/** Promises 1 to 8: a new object, feed, plate, plateOf, loss, lossOf, floor, air. */
public final class TextsTest {
  public static void main(String[] args) {
    newObject();
    feed();
    plates();
    plateFaults();
    plateRoom();
    losses();
    lawFaults();
    lossRefusals();
    lossOf();
    floors();
    air();
    Check.end();
  }

  private static void newObject() {
    PlateRings x = new PlateRings();
    for (int what = 0; what <= 5; what++) {
      Check.due("new count(" + what + ")", x.count(what), 0);
    }
    Check.due("new air", x.count(6), 1);
    Check.due("new refusals", Check.refused(x), 0);
    Check.due("new state", x.state(0), -3);
    Check.due("new plateOf", x.plateOf(0, 0), -1);
    Check.due("new lossOf", x.lossOf(0, 0), -1);
    Check.due("new restore", x.restore(), -3);
    Check.due("new slip", x.slip(0), 0);
    for (int floor = 0; floor < 4; floor++) {
      Check.due("new hard", x.floor(floor, 0, 9), 9);
      Check.due("new tilt", x.floor(floor, 1, 0), 0);
    }
  }

  private static void feed() {
    PlateRings x = new PlateRings();
    Check.due("feed 0", x.feed(0, 0), -4);
    Check.due("feed -1", x.feed(Integer.MIN_VALUE, 0), -4);
    Check.due("feed 9", x.feed(9, 0), -6);
    Check.due("feed most", x.feed(Integer.MAX_VALUE, 0), -6);
    Check.due("feed 8", x.feed(8, 0x6464646464646464L), 8);
    Check.due("feed 8 more", x.feed(8, -1L), 16);
    Check.due("feed 5 above 20", x.feed(5, 0), -6);
    Check.due("feed 4", x.feed(4, 0), 20);
    Check.due("feed 1 above 20", x.feed(1, 0), -6);
    Check.due("bytes", x.count(5), 20);
    Check.due("feed below though full", x.feed(0, 0), -4);
    Check.due("refusals", Check.refused(x), 34);
    Check.due("its first byte can not stand", x.plate(), -20);
    Check.due("what is above n bytes does not count", x.feed(1, 0x7777777777777777L), 1);
    Check.due("lowest first", x.feed(3, 'd' << 8 | '7' | '8' << 16), 4);
    Check.due("w7d8", x.plate(), 0);
    Check.due("weight", x.plateOf(0, 0), 7);
    Check.due("width", x.plateOf(0, 1), 8);
  }

  private static void plates() {
    PlateRings x = new PlateRings();
    Check.due("all told", Check.plate(x, "w999d99e9h8b7"), 0);
    Check.due("least", Check.plate(x, "w1d1"), 1);
    Check.due("h alone", Check.plate(x, "w10d10h5"), 2);
    Check.due("e and b", Check.plate(x, "w100d20e0b3"), 3);
    Check.due("told as 0", Check.plate(x, "w90d9e0h0b0"), 4);
    int[][] want = {{999, 99, 9, 8, 7}, {1, 1, 0, 0, 0}, {10, 10, 0, 5, 0}, {100, 20, 0, 0, 3}, {90, 9, 0, 0, 0}};
    for (int i = 0; i < want.length; i++) {
      for (int what = 0; what < 5; what++) {
        Check.due("plateOf(" + i + ", " + what + ")", x.plateOf(i, what), want[i][what]);
      }
    }
    Check.due("plateOf(5, 0)", x.plateOf(5, 0), -1);
    Check.due("plateOf(-1, 9)", x.plateOf(-1, 9), -1);
    Check.due("plateOf(0, 5)", x.plateOf(0, 5), -2);
    Check.due("plateOf(0, -1)", x.plateOf(0, -1), -2);
    Check.due("refusals", Check.refused(x), 22000);
  }

  private static void plateFault(String text, int place) {
    PlateRings x = new PlateRings();
    Check.due("plate " + text, Check.plate(x, text), -20 - place);
    Check.due("the TEXT has none behind " + text, x.count(5), 0);
    Check.due("no plate behind " + text, x.count(0), 0);
    Check.due("nothing is counted behind " + text, Check.refused(x), 0);
  }

  private static void plateFaults() {
    plateFault("", 0);
    plateFault("d5w5", 0);
    plateFault("W5d5", 0);
    plateFault("w", 1);
    plateFault("wd", 1);
    plateFault("w0d5", 1);
    plateFault("w05d5", 1);
    plateFault("w5", 2);
    plateFault("w5e1", 2);
    plateFault("w1234d5", 4);
    plateFault("w5d", 3);
    plateFault("w5d0", 3);
    plateFault("w5d100", 3);
    plateFault("w5d1000", 3);
    plateFault("w5d5e", 5);
    plateFault("w5d5e10", 5);
    plateFault("w5d5e10x", 5);
    plateFault("w5d5e01", 6);
    plateFault("w5d5e1e1", 6);
    plateFault("w5d5b1h1", 6);
    plateFault("w5d5h1e1", 6);
    plateFault("w5d5 ", 4);
    plateFault("w5d5" + (char) 0, 4);
    plateFault("w5d5" + (char) 229, 4);
    plateFault("w999d99e9h9b9wwwwwww", 13);
    plateFault("w999d99e9h9b", 12);
  }

  private static void plateRoom() {
    PlateRings x = new PlateRings();
    for (int i = 0; i < 6; i++) {
      Check.due("plate " + i, Check.plate(x, "w5d5"), i);
    }
    Check.due("a seventh", Check.plate(x, "w5d5"), -6);
    Check.due("its TEXT stays", x.count(5), 4);
    Check.due("ahead of a FAULT", Check.plate(x, "?"), -6);
    Check.due("refusals", Check.refused(x), 2);
    Check.due("plates", x.count(0), 6);
  }

  private static void law(String text, int lean, int want) {
    PlateRings x = new PlateRings();
    Check.plate(x, "w300d70e3h2b4");
    x.floor(0, 0, 8);
    x.floor(0, 1, 6);
    Check.due("loss " + text, Check.rolling(x, text), 0);
    Check.due("takes by " + text, x.takes(0, 0, lean, 0, 0), want);
    Check.due("the TEXT has none behind " + text, x.count(5), 0);
  }

  private static void losses() {
    law("0", 5, 0);
    law("999", 5, 999);
    law("l", 1500, 1500);
    law("t", 500, 104);
    law("w", 5, 300);
    law("d", 5, 70);
    law("e", 5, 3);
    law("b", 5, 4);
    law("f", 5, 8);
    law("k", 5, 6);
    law("2+3*4", 5, 14);
    law("(2+3)*4", 5, 20);
    law("20-3-4", 5, 13);
    law("100/7/2*3", 5, 21);
    law("2*3+4*5-6/2", 5, 23);
    law("(1-8)/2*(0-1)", 5, 3);
    law("7/0+5", 5, 5);
    law("5/(3-3)", 5, 0);
    law("3-5", 5, 0);
    law("l*l", 9000, 9999);
    law("l*2", 5000, 9999);
    law("999*999*999*999", 5, 999 * 999 * 999 * 999 > 0 ? 9999 : 0);
    law("999*999*999*998", 5, 999 * 999 * 999 * 998 > 0 ? 9999 : 0);
    law("l*l*l*l/999/999/999", 300, Math.max(0, 300 * 300 * 300 * 300 / 999 / 999 / 999));
    law("((((l))))", 7, 7);
    law("(l)+(t)-((w))*(1)", 0, 5205);
    law("1+1+1+1+1+1+1+1+1+l", 1, 10);
    law("1-(1-(1-(1-(1-l))))", 3, 0);
    law("1+(1+(1+(1+(l*2))))", 3, 10);
  }

  private static void lawFault(String text, int place) {
    PlateRings x = new PlateRings();
    Check.due("loss " + text, Check.rolling(x, text), -20 - place);
    Check.due("the TEXT has none behind " + text, x.count(5), 0);
    Check.due("no loss behind " + text, x.count(1), 0);
    Check.due("nothing is counted behind " + text, Check.refused(x), 0);
  }

  private static void lawFaults() {
    lawFault("", 0);
    lawFault("+", 0);
    lawFault("-1", 0);
    lawFault("h", 0);
    lawFault("L", 0);
    lawFault(")", 0);
    lawFault("l+", 2);
    lawFault("l*", 2);
    lawFault("l l", 1);
    lawFault("lt", 1);
    lawFault("l$", 1);
    lawFault("1234", 3);
    lawFault("01", 1);
    lawFault("00", 1);
    lawFault("5l", 1);
    lawFault("l5", 1);
    lawFault("l(5)", 1);
    lawFault("(l", 2);
    lawFault("(l))", 3);
    lawFault("()", 1);
    lawFault("(", 1);
    lawFault("l+*2", 2);
    lawFault("l//2", 2);
    lawFault("(((((l)))))", 4);
    lawFault("l*((((5+(l", 8);
    lawFault("((((l)))", 8);
    lawFault("1+" + (char) 204, 2);
    lawFault("(l)+((t)+((w)+((d)+(", 20);
    lawFault("1+1+1+1+1+1+1+1+1+1+", 20);
  }

  private static void lossRefusals() {
    PlateRings x = new PlateRings();
    Check.due("kind -1, from below", Check.loss(x, "5", -1, -1, 0), -1);
    Check.due("kind 7", x.loss(7, 0, 0), -1);
    Check.due("from below, to above", x.loss(6, -1, 10000), -4);
    Check.due("to below", x.loss(1, 10000, -1), -4);
    Check.due("from above", x.loss(1, 10000, 0), -6);
    Check.due("to above", x.loss(6, 0, 10000), -6);
    Check.due("early from above its to", x.loss(6, 1, 0), -3);
    Check.due("refusals", Check.refused(x), 20122);
    Check.due("it stays", x.count(5), 1);
    Check.due("others' from may be above", x.loss(5, 9999, 0), 0);
    Check.due("early from is its to", Check.loss(x, "5", 6, 9999, 9999), 1);
    Check.due("early 0", Check.loss(x, "5", 6, 0, 0), 2);
    for (int i = 3; i < 8; i++) {
      Check.due("loss " + i, Check.rolling(x, "l"), i);
    }
    Check.due("a ninth, ahead of early's from", Check.loss(x, "?", 6, 1, 0), -6);
    Check.due("a ninth, to below", x.loss(6, 1, -1), -4);
    Check.due("its TEXT stays", x.count(5), 1);
    Check.due("losses", x.count(1), 8);
  }

  private static void lossOf() {
    PlateRings x = Check.plain("3");
    Check.loss(x, "4", 6, 20, 60);
    Check.due("kind", x.lossOf(0, 0), 1);
    Check.due("kind", x.lossOf(1, 0), 6);
    Check.due("from", x.lossOf(1, 1), 20);
    Check.due("to", x.lossOf(1, 2), 60);
    Check.due("took ahead of a spin", x.lossOf(1, 3), 0);
    Check.due("no loss", x.lossOf(2, 9), -1);
    Check.due("no loss", x.lossOf(-1, 0), -1);
    Check.due("no what", x.lossOf(0, 4), -2);
    Check.due("no what", x.lossOf(0, -1), -2);
    Check.due("refusals", Check.refused(x), 22000);
    x.spin(0, 500, 0);
    x.tick(21);
    Check.due("took", x.lossOf(0, 3), 63);
    Check.due("took", x.lossOf(1, 3), 4);
    x.spin(0, 500, 0);
    Check.due("took at a new spin", x.lossOf(0, 3), 0);
  }

  private static void floors() {
    PlateRings x = new PlateRings();
    Check.due("hard", x.floor(3, 0, 0), 9);
    Check.due("hard again", x.floor(3, 0, 5), 0);
    Check.due("tilt", x.floor(3, 1, 9), 0);
    Check.due("tilt again", x.floor(3, 1, 0), 9);
    Check.due("hard stayed", x.floor(3, 0, 9), 5);
    Check.due("no floor", x.floor(4, 2, -1), -1);
    Check.due("no floor", x.floor(-1, 0, 0), -1);
    Check.due("no what", x.floor(0, 2, -1), -2);
    Check.due("no what", x.floor(0, -1, 0), -2);
    Check.due("below", x.floor(0, 0, -1), -4);
    Check.due("above", x.floor(0, 1, 10), -6);
    Check.due("refusals", Check.refused(x), 22011);
    Check.due("nothing changed", x.floor(0, 0, 9), 9);
    Check.due("nothing changed", x.floor(0, 1, 0), 0);
  }

  private static void air() {
    PlateRings x = new PlateRings();
    Check.due("on", x.air(true), 0);
    Check.due("off", x.air(false), 1);
    Check.due("off again", x.air(false), 0);
    Check.due("count", x.count(6), 0);
    Check.due("on again", x.air(true), 1);
    Check.due("count", x.count(6), 1);
  }
}
