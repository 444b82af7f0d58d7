import java.nio.file.Files;
import java.nio.file.Path;

/** What the tests share: a row of answers that are due, and texts fed as bytes. */
final class Check {
  private static int right = 0;
  private static int wrong = 0;
  private static String document = "";
  private static String words = "";

  private Check() { }

  static void due(String call, long got, long want) {
    if (got == want) {
      right++;
    } else {
      wrong++;
      String by = words.isEmpty() ? "" : " by '" + words + "'";
      System.out.println(call + " answered " + got + ", due is " + want + by);
    }
  }

  /** The document's own words that the next answers are due by: a test of words that do not stand there fails. */
  static void by(String told) {
    if (document.isEmpty()) {
      try {
        document = Files.readString(Path.of("../shared/DOC.md")).replaceAll("\\s+", " ");
      } catch (java.io.IOException e) {
        document = "not found";
      }
    }
    words = told;
    due("these words stand in the document", document.contains(told) ? 1 : 0, 1);
  }

  /** The tone of a plate "w1d1" at a lean. */
  static int tone(int lean) {
    return 9000 / (lean + 10) * 10;
  }

  /** The ROW is these tones, and no others. */
  static void hear(PlateRings x, int... tones) {
    x.hush();
    for (int tone : tones) {
      x.heard(tone);
    }
  }

  static void feed(PlateRings x, String text) {
    for (int at = 0; at < text.length(); at += 8) {
      int n = Math.min(8, text.length() - at);
      long bytes = 0;
      for (int i = 0; i < n; i++) {
        bytes |= (long) (text.charAt(at + i) & 255) << 8 * i;
      }
      x.feed(n, bytes);
    }
  }

  static int plate(PlateRings x, String text) {
    feed(x, text);
    return x.plate();
  }

  static int loss(PlateRings x, String law, int kind, int from, int to) {
    feed(x, law);
    return x.loss(kind, from, to);
  }

  static int rolling(PlateRings x, String law) {
    return loss(x, law, 1, 0, 0);
  }

  /** Plate 0 is "w1d1" (tone: ten times 9000 by lean and 10), losses are ROLLING by the laws told. */
  static PlateRings plain(String... laws) {
    PlateRings x = new PlateRings();
    plate(x, "w1d1");
    for (String law : laws) {
      rolling(x, law);
    }
    return x;
  }

  /** The refusals -1, -2, -3, -4, -6 so far, as digits (each below 10). */
  static int refused(PlateRings x) {
    return x.count(11) * 10000 + x.count(12) * 1000 + x.count(13) * 100 + x.count(14) * 10 + x.count(16);
  }

  static void end() {
    System.out.println(right + " answers as due, " + wrong + " not");
    if (wrong != 0 || right == 0) {
      System.exit(1);
    }
  }
}
