/** Promises 24 to 27, 30 to 33: ahead, parts, longest, bestFor, trust, leg, legs, draws. */
public final class TriesTest {
  public static void main(String[] args) {
    aheadRefusals();
    ahead();
    partsRefusals();
    parts();
    longest();
    bestFloor();
    bestEdge();
    trust();
    trustRefusals();
    leg();
    legs();
    drawsRefusals();
    draws();
    Check.end();
  }

  private static void aheadRefusals() {
    PlateRings x = Check.plain("1", "2");
    Check.due("no set", x.ahead(5, 4, 0), -1);
    Check.due("no set", x.ahead(0, -1, 0), -1);
    Check.due("no plate", x.ahead(2, 3, 1), -1);
    Check.due("no plate", x.ahead(2, 3, -1), -1);
    Check.due("no floor", x.ahead(3, 3, 4), -1);
    Check.due("no floor", x.ahead(3, 3, -1), -1);
    Check.due("no try", x.ahead(5, 3, 9), -2);
    Check.due("no try", x.ahead(-1, 3, 9), -2);
    Check.due("nothing spins", x.ahead(4, 3, 9), -3);
    Check.due("refusals", Check.refused(x), 62100);
    x.spin(0, 100, 0);
    Check.due("others are told nothing", x.ahead(0, 3, 9), 34);
    Check.due("no set is the set of none", x.ahead(0, 0, 0), 1);
  }

  private static void ahead() {
    PlateRings x = Check.plain("1");
    Check.plate(x, "w1d1h5");
    Check.loss(x, "4", 0, 0, 0);
    Check.loss(x, "9", 4, 0, 0);
    x.floor(2, 0, 4);
    x.spin(0, 121, 0);
    x.tick(3);
    Check.due("as it is", x.ahead(0, 7, 0), 25);
    Check.due("without air", x.ahead(1, 7, 0), 121);
    Check.due("another plate: a ring", x.ahead(2, 7, 1), 41);
    Check.due("another floor", x.ahead(3, 7, 2), 13);
    Check.due("half the lean: 60", x.ahead(4, 7, 0), 12);
    Check.due("one loss", x.ahead(0, 1, 0), 121);
    Check.due("another floor, one loss", x.ahead(3, 4, 2), 25);
    x.air(false);
    Check.due("with air", x.ahead(1, 7, 0), 25);
    Check.due("in mind alone", x.state(3), 3);
    Check.due("air stays off", x.count(6), 0);
  }

  private static void partsRefusals() {
    PlateRings x = Check.plain("1", "2");
    Check.due("no set", x.parts(4, 0, 0, 0, 2), -1);
    Check.due("no set", x.parts(0, -1, 0, 0, 0), -1);
    Check.due("no plate", x.parts(0, 0, 1, 0, 0), -1);
    Check.due("no floor", x.parts(0, 0, 0, 4, 0), -1);
    Check.due("no what", x.parts(0, 0, 0, 0, 2), -2);
    Check.due("no what", x.parts(0, 0, 0, 0, -1), -2);
    Check.due("nothing spins", x.parts(3, 0, 0, 3, 1), -3);
    Check.due("refusals", Check.refused(x), 42100);
  }

  private static void parts() {
    PlateRings x = Check.plain("1");
    Check.plate(x, "w1d1h5");
    Check.loss(x, "4", 0, 0, 0);
    Check.loss(x, "9", 4, 0, 0);
    x.floor(2, 0, 4);
    x.spin(0, 121, 0);
    // Set 1 lasts 121, 121, 121, 121, 60; set 2 lasts 31, 1, 61, 31, 15; set 4 lasts 1, 1, 1, 25, 1.
    Check.due("1 and 2: without air", x.parts(1, 2, 1, 2, 0), 1);
    Check.due("1 and 2: 120", x.parts(1, 2, 1, 2, 1), 120);
    Check.due("2 and 1 alike", x.parts(2, 1, 1, 2, 0), 1);
    Check.due("2 and 4: another plate", x.parts(2, 4, 1, 2, 0), 2);
    Check.due("2 and 4: 60", x.parts(2, 4, 1, 2, 1), 60);
    Check.due("0 and 4: another floor", x.parts(0, 4, 1, 2, 0), 3);
    Check.due("0 and 4: 24", x.parts(0, 4, 1, 2, 1), 24);
    Check.due("1 and 0: the least of several", x.parts(1, 0, 1, 2, 0), 0);
    Check.due("1 and 0: 120", x.parts(1, 0, 1, 2, 1), 120);
    Check.due("alike", x.parts(5, 5, 1, 2, 0), 0);
    Check.due("alike", x.parts(5, 5, 1, 2, 1), 0);
    PlateRings y = Check.plain("1");
    Check.loss(y, "1", 6, 0, 99);
    y.spin(0, 101, 0);
    Check.due("half the lean: 50 and 50", y.ahead(4, 2, 0), 50);
    PlateRings half = Check.plain("l/100", "1");
    Check.loss(half, "l*l/100", 6, 0, 0);
    half.spin(0, 180, 0);
    // At 180 the last takes 324 and it lies; at 90 it takes 81, and 9 are left.
    Check.due("2 and 6: as it is", half.parts(2, 6, 0, 0, 0), 0);
    Check.due("4 and 0: half the lean", half.parts(4, 0, 0, 0, 0), 4);
    Check.due("4 and 0: 1", half.parts(4, 0, 0, 0, 1), 1);
  }

  private static void longest() {
    PlateRings x = new PlateRings();
    Check.due("no plates", x.longest(999, 100, 0), -9);
    Check.plate(x, "w30d1");
    Check.plate(x, "w20d1");
    Check.plate(x, "w20d2");
    Check.plate(x, "w10d1");
    Check.rolling(x, "1+(30-w)");
    Check.due("the heaviest", x.longest(999, 100, 0), 0);
    Check.due("just so heavy", x.longest(30, 100, 0), 0);
    Check.due("of several the least", x.longest(29, 100, 0), 1);
    Check.due("the lightest", x.longest(19, 100, 0), 3);
    Check.due("none so light", x.longest(9, 100, 0), -9);
    Check.due("weight 0", x.longest(0, 9000, 3), -9);
    Check.due("lean 0: all last one", x.longest(999, 0, 0), 0);
    Check.due("no floor", x.longest(-1, 9001, 4), -1);
    Check.due("no floor", x.longest(5, 5, -1), -1);
    Check.due("weight below", x.longest(-1, 9001, 0), -4);
    Check.due("lean below", x.longest(1000, -1, 0), -4);
    Check.due("weight above", x.longest(1000, 5, 0), -6);
    Check.due("lean above", x.longest(999, 9001, 0), -6);
    Check.due("refusals", Check.refused(x), 20022);
  }

  private static void bestFloor() {
    PlateRings x = Check.plain("1+k");
    Check.due("all alike", x.bestFor(0, 500, 0), 0);
    x.floor(0, 1, 5);
    x.floor(1, 1, 5);
    x.floor(2, 1, 2);
    x.floor(3, 1, 2);
    Check.due("the least of two", x.bestFor(0, 500, 0), 2);
    x.floor(3, 1, 1);
    Check.due("the last", x.bestFor(0, 500, 0), 3);
    Check.due("no plate", x.bestFor(1, -1, 2), -1);
    Check.due("no what", x.bestFor(0, -1, 2), -2);
    Check.due("no what", x.bestFor(0, -1, -1), -2);
    Check.due("below", x.bestFor(0, -1, 0), -4);
    Check.due("above", x.bestFor(0, 9001, 1), -6);
    Check.due("refusals", Check.refused(x), 12011);
  }

  private static void bestEdge() {
    PlateRings x = Check.plain("1");
    Check.plate(x, "w1d1e7");
    Check.due("all alike", x.bestFor(1, 500, 1), 0);
    Check.loss(x, "1", 3, 0, 0);
    Check.due("with 9 it never leaps", x.bestFor(1, 500, 1), 9);
    PlateRings y = Check.plain("1+(e-3)*(e-3)");
    Check.due("by a law", y.bestFor(0, 500, 1), 3);
    PlateRings z = Check.plain("1+(e-4)*(e-4)*k");
    z.floor(1, 1, 5);
    Check.due("on floor 0", z.bestFor(0, 500, 1), 0);
    z.floor(0, 1, 5);
    Check.due("on floor 0", z.bestFor(0, 500, 1), 4);
    Check.due("its edge stays", z.plateOf(0, 2), 0);
  }

  private static void trust() {
    PlateRings x = Check.plain("10");
    x.spin(0, 1000, 0);
    x.tick(50);
    Check.due("100 ticks by ten", x.trust(0), 10);
    x.spin(0, 1010, 0);
    Check.due("101: 110, 105, 102", x.trust(0), 1);
    Check.due("off by 1", x.trust(1), 2);
    Check.due("off by 3", x.trust(3), 2);
    Check.due("off by 4", x.trust(4), 5);
    Check.due("off by 8", x.trust(8), 5);
    Check.due("off by 9", x.trust(9), 10);
    Check.due("greatest", x.trust(9999), 10);
    PlateRings none = Check.plain();
    none.spin(0, 100, 0);
    Check.due("stands in one: off by 9, 4, 1", none.trust(0), 1);
    Check.due("off by 4", none.trust(4), 5);
    // Of 30 at ten a tick: 3 ticks; the early one in ticks 4 to 9 alone would make it fewer.
    PlateRings y = Check.plain("1");
    Check.loss(y, "9", 6, 4, 9);
    y.spin(0, 34, 0);
    // One by one: 4 by ones, 3 by tens: 7. By two: 4, then twice 20: 8. By five: 5, 29 less 50: 10. By ten: 34, 24, ..: 40.
    Check.due("off by 1", y.trust(1), 2);
    Check.due("off by 3", y.trust(3), 5);
    Check.due("off by 32", y.trust(32), 5);
    Check.due("off by 33", y.trust(33), 10);
  }

  private static void trustRefusals() {
    PlateRings x = Check.plain("10");
    Check.due("nothing spins", x.trust(-1), -3);
    x.spin(0, 1000, 0);
    Check.due("below", x.trust(-1), -4);
    Check.due("above", x.trust(10000), -6);
    Check.due("refusals", Check.refused(x), 111);
  }

  private static void leg() {
    PlateRings x = new PlateRings();
    Check.due("no floor", x.leg(4, 0), -1);
    Check.due("no floor", x.leg(-1, 1000), -1);
    Check.due("below", x.leg(0, 0), -4);
    Check.due("above", x.leg(0, 1000), -6);
    Check.due("none", x.count(4), 0);
    Check.due("one", x.leg(0, 1), 1);
    Check.due("two", x.leg(3, 999), 2);
    Check.due("three", x.leg(3, 5), 3);
    Check.due("four", x.leg(1, 5), 4);
    Check.due("five", x.leg(1, 5), -6);
    Check.due("five, below", x.leg(1, 0), -4);
    Check.due("legs", x.count(4), 4);
    Check.due("refusals", Check.refused(x), 20022);
  }

  private static void legs() {
    PlateRings x = Check.plain("1+k");
    x.floor(1, 1, 1);
    x.floor(2, 1, 2);
    x.floor(3, 1, 9);
    Check.due("no plate", x.legs(1, -1), -1);
    Check.due("below", x.legs(0, -1), -4);
    Check.due("above", x.legs(0, 9001), -6);
    Check.due("no legs", x.legs(0, 100), -3);
    Check.due("refusals", Check.refused(x), 10111);
    x.leg(1, 10);
    Check.due("one for ever", x.legs(0, 100), 50);
    Check.due("they are none then", x.count(4), 0);
    Check.due("they are none then", x.legs(0, 100), -3);
    x.leg(0, 10);
    x.leg(1, 20);
    x.leg(3, 1);
    Check.due("refused: they stay", x.legs(0, 9001), -6);
    Check.due("they stay", x.count(4), 3);
    Check.due("10 by one, 20 by two, 5 by ten", x.legs(0, 100), 35);
    x.leg(0, 10);
    x.leg(3, 5);
    x.leg(2, 5);
    Check.due("it lies on the second", x.legs(0, 55), 15);
    x.leg(2, 1);
    x.leg(2, 1);
    x.leg(2, 1);
    x.leg(0, 1);
    Check.due("four", x.legs(0, 12), 6);
    Check.due("none", x.count(4), 0);
  }

  private static void drawsRefusals() {
    PlateRings x = Check.plain("1");
    Check.due("no plate", x.draws(1, 0, 0, 0, -1, 2), -1);
    Check.due("no floor", x.draws(0, 4, 0, 0, -1, 2), -1);
    Check.due("no what", x.draws(0, 0, 0, 0, -1, 2), -2);
    Check.due("no what", x.draws(0, 0, 31, 0, -1, -1), -2);
    Check.due("n below", x.draws(0, 0, 0, 0, 10000, 0), -4);
    Check.due("m below", x.draws(0, 0, 31, 0, -1, 0), -4);
    Check.due("n above", x.draws(0, 0, 31, 0, 0, 0), -6);
    Check.due("m above", x.draws(0, 0, 30, 0, 10000, 1), -6);
    Check.due("refusals", Check.refused(x), 22022);
  }

  private static void draws() {
    PlateRings x = Check.plain("1");
    Check.loss(x, "2", 3, 0, 0);
    for (int z : new int[] {0, 1, 5, -7, 123456789, Integer.MIN_VALUE, Integer.MAX_VALUE}) {
      int seed = z;
      int long4000 = 0;
      int leaping = 0;
      for (int i = 0; i < 30; i++) {
        seed = seed * 1103515245 + 12345;
        int lean = 1 + (seed & 0x7fffffff) / 65536 % 9000;
        // By ones to 89, then it leaps, but of 3 nothing is left.
        int ticks = lean < 90 ? 1 : lean - 88;
        if (ticks >= 4000) {
          long4000++;
        }
        if (lean > 3) {
          leaping++;
        }
      }
      Check.due("all last 0", x.draws(0, 0, 30, z, 0, 0), 30);
      Check.due("last 4000 from " + z, x.draws(0, 0, 30, z, 4000, 0), long4000);
      Check.due("none last 9999", x.draws(0, 0, 30, z, 9999, 0), 0);
      Check.due("leap from " + z, x.draws(0, 0, 30, z, 9999, 1), leaping);
    }
    PlateRings y = Check.plain("1");
    for (int z = -1000; z < 1000; z += 37) {
      int next = z * 1103515245 + 12345;
      int lean = 1 + (next & 0x7fffffff) / 65536 % 9000;
      Check.due("lasts its lean", y.draws(0, 0, 1, z, lean, 0), 1);
      Check.due("no longer", y.draws(0, 0, 1, z, lean + 1, 0), 0);
    }
    // From 0: z is 12345, by 65536 cut 0: lean 1.
    Check.due("the first of seed 0 lasts 1", x.draws(0, 0, 1, 0, 1, 0), 1);
    Check.due("not 2", x.draws(0, 0, 1, 0, 2, 0), 0);
    Check.due("it lies", x.draws(0, 0, 1, 0, 0, 1), 0);
  }
}
