import java.lang.reflect.Method;
import java.lang.reflect.Modifier;
import java.nio.file.DirectoryStream;
import java.nio.file.Files;
import java.nio.file.Path;
import java.util.Set;
import java.util.TreeSet;
import java.util.regex.Matcher;
import java.util.regex.Pattern;

/** README.md: each call that it shows answers what stands behind it there; no call of the face, no test lacks. */
public final class ReadmeTest {
  private static final Pattern CALL = Pattern.compile("x\\.(\\w+)\\(([^)]*)\\); +// (-?\\d+).*");
  private static final Pattern FEED = Pattern.compile("feed\\(x, \"([^\"]*)\"\\);");

  private static PlateRings x = null;
  private static int shown = 0;

  public static void main(String[] args) throws Exception {
    String page = Files.readString(Path.of("README.md"));
    Matcher block = Pattern.compile("(?s)```java\n(.*?)```").matcher(page);
    while (block.find()) {
      for (String line : block.group(1).split("\n")) {
        follow(line);
      }
    }
    Check.due("calls are shown", shown > 30 ? 1 : 0, 1);
    namesEveryCall(page);
    namesEveryTest(page);
    Check.end();
  }

  private static void follow(String line) throws Exception {
    Matcher call = CALL.matcher(line);
    Matcher feed = FEED.matcher(line);
    if (line.equals("PlateRings x = new PlateRings();")) {
      x = new PlateRings();
    } else if (feed.matches()) {
      Check.feed(x, feed.group(1));
    } else if (call.matches()) {
      shown++;
      Check.due("README: " + line, answer(call.group(1), call.group(2)), Long.parseLong(call.group(3)));
    } else {
      Check.due("README: a line that can be followed: " + line, 0, 1);
    }
  }

  private static long answer(String name, String told) throws Exception {
    String[] words = told.isEmpty() ? new String[0] : told.split(", ");
    for (Method method : PlateRings.class.getDeclaredMethods()) {
      if (Modifier.isPublic(method.getModifiers()) && method.getName().equals(name)) {
        Class<?>[] types = method.getParameterTypes();
        Object[] values = new Object[words.length];
        for (int i = 0; i < words.length; i++) {
          values[i] = value(types[i], words[i]);
        }
        return ((Number) method.invoke(x, values)).longValue();
      }
    }
    throw new IllegalArgumentException("README: no such call: " + name);
  }

  private static Object value(Class<?> type, String word) {
    if (type == boolean.class) {
      return Boolean.valueOf(word);
    }
    return type == long.class ? (Object) Long.decode(word) : (Object) Integer.decode(word);
  }

  private static void namesEveryCall(String page) {
    Set<String> told = new TreeSet<>();
    Matcher row = Pattern.compile("(?m)^\\| [^|]+ \\|([^|]+)\\|[^|]+\\|$").matcher(page);
    while (row.find()) {
      Matcher name = Pattern.compile("`(\\w+)`").matcher(row.group(1));
      while (name.find()) {
        told.add(name.group(1));
      }
    }
    Set<String> there = new TreeSet<>();
    for (Method method : PlateRings.class.getDeclaredMethods()) {
      if (Modifier.isPublic(method.getModifiers())) {
        there.add(method.getName());
      }
    }
    Check.due("README: the calls are " + there + ", told are " + told, told.equals(there) ? 1 : 0, 1);
  }

  private static void namesEveryTest(String page) throws Exception {
    try (DirectoryStream<Path> tests = Files.newDirectoryStream(Path.of("src/test/java"), "*Test.java")) {
      for (Path test : tests) {
        String name = test.getFileName().toString().replace(".java", "");
        Check.due("README names " + name, page.contains("`" + name + "`") ? 1 : 0, 1);
      }
    }
  }
}
