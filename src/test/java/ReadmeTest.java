import java.lang.reflect.Method;
import java.lang.reflect.Modifier;
import java.nio.file.Files;
import java.nio.file.Path;
import java.util.regex.Matcher;
import java.util.regex.Pattern;

/** README.md tells what is so: its example answers as it says, and each call and constant of the face stands in it. */
public final class ReadmeTest {
  private static int wrong = 0;

  private static void due(String what, Object got, Object want) {
    if (!got.equals(want)) {
      wrong++;
      System.out.println(what + ": " + got + ", due is " + want);
    }
  }

  private static Method callNamed(String name) {
    for (Method m : JealousChoir.class.getDeclaredMethods()) {
      if (Modifier.isPublic(m.getModifiers()) && m.getName().equals(name)) return m;
    }
    return null;
  }

  private static Object argument(String told, Class<?> type) {
    if (type == boolean.class) return Boolean.valueOf(told);
    if (type == long.class) return Long.valueOf(told);
    return Integer.valueOf(told);
  }

  private static long answer(JealousChoir x, String name, String told) throws Exception {
    Method m = callNamed(name);
    String[] words = told.isEmpty() ? new String[0] : told.split(", ");
    Object[] arguments = new Object[words.length];
    for (int i = 0; i < words.length; i++) arguments[i] = argument(words[i], m.getParameterTypes()[i]);
    return ((Number) m.invoke(x, arguments)).longValue();
  }

  private static void example(String readme) throws Exception {
    JealousChoir x = new JealousChoir();
    Matcher text = Pattern.compile("String text = \"(\\w+)\";").matcher(readme);
    due("the example has a text", text.find(), true);
    for (char letter : text.group(1).toCharArray()) x.write(letter);
    Matcher line = Pattern.compile("(?m)^x\\.(\\w+)\\((.*)\\); *// (-?\\d+)").matcher(readme);
    int lines = 0;
    while (line.find()) {
      due("x." + line.group(1) + "(" + line.group(2) + ")", answer(x, line.group(1), line.group(2)), Long.valueOf(line.group(3)));
      lines++;
    }
    due("each line of the example was met", (long) lines, readme.lines().filter(l -> l.startsWith("x.")).count());
  }

  private static void tellsAll(String readme) throws Exception {
    for (Method m : JealousChoir.class.getDeclaredMethods()) {
      if (Modifier.isPublic(m.getModifiers())) due(m.getName() + " is told", readme.contains("`" + m.getName() + "("), true);
    }
    for (String name : new String[] {"UNKNOWN", "OUTSIDE", "STATE", "FULL", "NONE"}) {
      int number = JealousChoir.class.getField(name).getInt(null);
      due(name + " is told", readme.contains("| `" + name + "` " + number + " |"), true);
    }
    due("how to run the tests is told", readme.contains("`.ci/run`"), true);
    try (java.util.stream.Stream<Path> tests = Files.list(Path.of("src/test/java"))) {
      for (Path test : (Iterable<Path>) tests::iterator) {
        String name = test.getFileName().toString().replace(".java", "");
        due(name + " is told", readme.contains("`" + name + "`"), true);
      }
    }
  }

  public static void main(String[] args) throws Exception {
    String readme = Files.readString(Path.of("README.md"));
    example(readme);
    tellsAll(readme);
    System.out.println(wrong == 0 ? "ReadmeTest: all is as due" : "ReadmeTest: " + wrong + " things are not as due");
    if (wrong != 0) System.exit(1);
  }
}
