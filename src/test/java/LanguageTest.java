import java.lang.reflect.Constructor;
import java.lang.reflect.Field;
import java.lang.reflect.Method;
import java.lang.reflect.Modifier;
import java.nio.file.Files;
import java.nio.file.Path;
import java.util.Set;
import java.util.TreeSet;
import java.util.regex.Matcher;
import java.util.regex.Pattern;

/** The face that the document tells, and those rules of LANGUAGE.md that can be seen in the class or its text. */
public final class LanguageTest {
  private static final Set<String> LIBRARY = Set.of("Math.abs", "Math.max", "Math.min", "Integer.bitCount",
      "Arrays.copyOf", "Arrays.fill", "System.arraycopy");

  public static void main(String[] args) throws Exception {
    face();
    hiddenMembers();
    nestedClasses();
    words();
    library();
    lengths();
    Check.end();
  }

  private static void note(String fault, boolean is) {
    Check.due(fault, is ? 1 : 0, 0);
  }

  private static void face() throws Exception {
    Set<String> told = new TreeSet<>();
    String doc = Files.readString(Path.of("../shared/DOC.md"));
    Matcher m = Pattern.compile("    public (int|long) (\\w+)\\(([^)]*)\\);").matcher(doc);
    while (m.find()) {
      told.add(m.group(1) + " " + m.group(2) + "(" + m.group(3).replaceAll(" \\w+(?=,|$)", "") + ")");
    }
    Set<String> there = new TreeSet<>();
    for (Method method : PlateRings.class.getDeclaredMethods()) {
      if (Modifier.isPublic(method.getModifiers())) {
        StringBuilder s = new StringBuilder(method.getReturnType() + " " + method.getName() + "(");
        for (Class<?> type : method.getParameterTypes()) {
          s.append(s.charAt(s.length() - 1) == '(' ? "" : ", ").append(type);
        }
        there.add(s + ")");
      }
    }
    note("the face is " + there + ", told is " + told, !told.equals(there));
    Check.due("calls of the face", there.size(), 35);
  }

  private static void hiddenMembers() {
    note("the class is not public and final", (PlateRings.class.getModifiers() & (Modifier.PUBLIC | Modifier.FINAL)) != (Modifier.PUBLIC | Modifier.FINAL));
    Set<String> publicNames = new TreeSet<>();
    for (Method method : PlateRings.class.getDeclaredMethods()) {
      if (Modifier.isPublic(method.getModifiers())) {
        publicNames.add(method.getName());
      }
    }
    for (Method method : PlateRings.class.getDeclaredMethods()) {
      boolean isPublic = Modifier.isPublic(method.getModifiers());
      note(method + " is neither public nor private", !isPublic && !Modifier.isPrivate(method.getModifiers()));
      note(method + " bears a public one's name", !isPublic && publicNames.contains(method.getName()));
      note(method + " takes too much", method.getParameterCount() > 7);
    }
    for (Field field : PlateRings.class.getDeclaredFields()) {
      note(field + " is not private", !Modifier.isPrivate(field.getModifiers()));
      note(field + " is static and not final", Modifier.isStatic(field.getModifiers()) && !Modifier.isFinal(field.getModifiers()));
    }
    for (Constructor<?> one : PlateRings.class.getDeclaredConstructors()) {
      note(one + " takes something", one.getParameterCount() > 0);
    }
  }

  private static void nestedClasses() {
    Class<?>[] inside = PlateRings.class.getDeclaredClasses();
    note("too many classes", inside.length > 11);
    for (Class<?> one : inside) {
      note(one + " is not static", !Modifier.isStatic(one.getModifiers()));
      int fields = 0;
      for (Field field : one.getDeclaredFields()) {
        fields += Modifier.isStatic(field.getModifiers()) ? 0 : 1;
      }
      note(one + " has too many fields", fields > 20);
    }
  }

  private static String bare() throws Exception {
    String source = Files.readString(Path.of("src/main/java/PlateRings.java"));
    return source.replaceAll("(?s)/\\*.*?\\*/", "").replaceAll("//[^\n]*", "").replaceAll("\"[^\"\n]*\"", "\"\"");
  }

  private static void words() throws Exception {
    String source = bare();
    for (String word : "throw|throws|try|catch|synchronized|assert|package|protected|volatile|native".split("\\|")) {
      note("the word " + word, Pattern.compile("\\b" + word + "\\b").matcher(source).find());
    }
    for (String sign : new String[] {"->", "::", "\" +", "+ \"", "Exact", ".equals(", "hashCode", "toString", "@"}) {
      note("the sign " + sign, source.contains(sign));
    }
  }

  private static void library() throws Exception {
    Matcher m = Pattern.compile("\\b(Math|Integer|Long|Arrays|System|String|Character|List|Objects)\\.(\\w+)").matcher(bare());
    while (m.find()) {
      note("not in the library: " + m.group(), !LIBRARY.contains(m.group()));
    }
    m = Pattern.compile("import ([^;]+);").matcher(bare());
    while (m.find()) {
      note("import of " + m.group(1), !m.group(1).equals("java.util.Arrays"));
    }
  }

  private static void lengths() throws Exception {
    int length = 0;
    for (String line : bare().split("\n")) {
      boolean opens = line.matches(" {4}( {4})?(?!if|for|while|switch|else|do)\\w.*\\) \\{");
      length = opens ? 0 : length + 1;
      note("a method is too long", length > 60 && line.matches("    (    )?}"));
    }
  }
}
