import java.io.IOException;
import java.nio.file.DirectoryStream;
import java.nio.file.Files;
import java.nio.file.Path;
import java.util.BitSet;
import java.util.regex.Matcher;
import java.util.regex.Pattern;

/** No sentence of the Terms or of a promise that names a bound is without a test that stands under its words. */
public final class WordsTest {
  public static void main(String[] args) throws IOException {
    String document = Files.readString(Path.of("../shared/DOC.md")).replaceAll("\\s+", " ");
    BitSet tested = new BitSet();
    try (DirectoryStream<Path> tests = Files.newDirectoryStream(Path.of("src/test/java"), "*Test.java")) {
      for (Path test : tests) {
        mark(document, Files.readString(test), tested);
      }
    }
    terms(document, tested);
    promises(document, tested);
    Check.end();
  }

  private static void mark(String document, String test, BitSet tested) {
    Matcher m = Pattern.compile("Check\\.by\\(\"((?:[^\"\\\\]|\\\\.)*)\"\\)").matcher(test);
    while (m.find()) {
      String words = m.group(1).replace("\\\"", "\"");
      for (int at = document.indexOf(words); at >= 0; at = document.indexOf(words, at + 1)) {
        tested.set(at, at + words.length());
      }
    }
  }

  /** A part of a sentence is tested if some of its words are. */
  private static void terms(String document, BitSet tested) {
    int from = document.indexOf("## Terms");
    int end = document.indexOf("## Promise 1:");
    Matcher m = Pattern.compile("[^.;:]*\\w[^.;:]*[.;:]+").matcher(document).region(from, end);
    while (m.find()) {
      boolean bound = m.group().matches(".*(\\d|least|most|greatest|none|no ).*");
      boolean isTested = tested.get(m.start(), m.end()).cardinality() > 0;
      boolean heads = m.group().matches(".*(====|```| [A-Z]+:)");
      Check.due("a test of '" + m.group() + "'", !bound || heads || isTested ? 1 : 0, 1);
    }
  }

  /** Of a promise every word but those of its head is tested, save numbers of refusals that stand alone. */
  private static void promises(String document, BitSet tested) {
    Matcher m = Pattern.compile("## Promise (\\d+): [^`]*`[^`]*`: (.*?)(?= ##)").matcher(document);
    int promises = 0;
    while (m.find()) {
      promises++;
      StringBuilder left = new StringBuilder();
      for (int i = m.start(2); i < m.end(2); i++) {
        left.append(tested.get(i) ? ' ' : document.charAt(i));
      }
      String words = left.toString().replaceAll("-[1-6](?=\\W)|[.;,: ]", "");
      Check.due("promise " + m.group(1) + " is tested but for '" + words + "'", words.length(), 0);
    }
    Check.due("promises", promises, 36);
  }
}
