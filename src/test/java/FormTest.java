import java.lang.management.ManagementFactory;
import java.lang.reflect.Constructor;
import java.lang.reflect.Field;
import java.lang.reflect.Method;
import java.lang.reflect.Modifier;
import java.nio.file.Files;
import java.nio.file.Path;
import java.util.Arrays;
import java.util.Set;
import java.util.TreeSet;
import java.util.regex.Matcher;
import java.util.regex.Pattern;

/** The face of the document and the rules of the language that a program can look at; that calls make no objects. */
public final class FormTest {
  private static int wrong = 0;

  private static void due(String what, Object got, Object want) {
    if (!got.equals(want)) {
      wrong++;
      System.out.println(what + ": " + got + ", due is " + want);
    }
  }

  private static final String[] FACE = {"int write(int)", "int wipe()", "int fault()", "int choir()", "int singer(int,int)",
      "int seat(int)", "int bar()", "int gift(int,int)", "int change(int,int)", "int pitch()", "int hold(int)", "int undo()",
      "int sings(int,int)", "int notes(int)", "int round(int)", "int unison()", "int gets(int,int,int,int)", "int best(int,int)",
      "int judge(int,long)", "int hear(int,int,int)", "int unhear()", "int had(int)", "int share(int,boolean)",
      "int rests(int,int,int)", "int hoarse(int,int,boolean)", "long seed(long)", "int years(int)", "int keep(int)",
      "int again(int)", "int count(int)", "public JealousChoir()",
      "UNKNOWN=-1", "OUTSIDE=-2", "STATE=-3", "FULL=-4", "NONE=-9"};

  private static String parameters(Class<?>[] types) {
    StringBuilder b = new StringBuilder("(");
    for (int i = 0; i < types.length; i++) b.append(i > 0 ? "," : "").append(types[i].getSimpleName());
    return b.append(")").toString();
  }

  private static void face() throws Exception {
    Class<?> c = JealousChoir.class;
    Set<String> found = new TreeSet<>();
    for (Method m : c.getDeclaredMethods()) {
      if (!Modifier.isPrivate(m.getModifiers())) found.add(m.getReturnType() + " " + m.getName() + parameters(m.getParameterTypes()));
    }
    for (Constructor<?> k : c.getDeclaredConstructors()) found.add(Modifier.toString(k.getModifiers()) + " JealousChoir" + parameters(k.getParameterTypes()));
    for (Field f : c.getDeclaredFields()) {
      if (!Modifier.isPrivate(f.getModifiers())) found.add(f.getName() + "=" + f.getInt(null));
      if (Modifier.isStatic(f.getModifiers())) due("static field " + f.getName() + " is final", Modifier.isFinal(f.getModifiers()), true);
    }
    due("the face", found, new TreeSet<>(Arrays.asList(FACE)));
    due("the class", Modifier.toString(c.getModifiers()), "public final");
  }

  private static void classesInside() {
    Set<String> names = new TreeSet<>();
    for (Method m : JealousChoir.class.getDeclaredMethods()) if (Modifier.isPublic(m.getModifiers())) names.add(m.getName());
    due("at most twelve classes", JealousChoir.class.getDeclaredClasses().length < 12, true);
    for (Class<?> inside : JealousChoir.class.getDeclaredClasses()) {
      due(inside + " is static", Modifier.isStatic(inside.getModifiers()), true);
      due(inside + " is not public", Modifier.isPublic(inside.getModifiers()), false);
      for (Method m : inside.getDeclaredMethods()) {
        due(inside + " has a method named as a public one, " + m.getName(), names.contains(m.getName()), false);
        due(m + " takes seven at most", m.getParameterCount() <= 7, true);
      }
      due(inside + " has some twenty fields", inside.getDeclaredFields().length <= 20, true);
    }
  }

  private static void source() throws Exception {
    String text = Files.readString(Path.of("src/main/java/JealousChoir.java"));
    for (int i = 0; i < text.length(); i++) due("sign at " + i + " is ASCII", text.charAt(i) < 128, true);
    String code = text.replaceAll("(?s)/\\*.*?\\*/", " ").replaceAll("//[^\n]*", " ");
    String[] out = {"throw", "throws", "try", "catch", "synchronized", "assert", "import", "package", "hashCode", "toString",
        "System\\.(?!arraycopy)", "->", "::", "\\w+Exact", "double", "float", "protected", "while\\s*\\(true"};
    for (String word : out) {
      Matcher m = Pattern.compile(word.matches("\\w+") ? "\\b" + word + "\\b" : word).matcher(code);
      due("the code has " + word, m.find(), false);
    }
    methodsStayShort(code.split("\n"));
  }

  private static void methodsStayShort(String[] lines) {
    int start = 0;
    String end = "";
    for (int i = 0; i < lines.length; i++) {
      Matcher head = Pattern.compile("( +)(public|private) .*\\) \\{").matcher(lines[i]);
      if (head.matches()) {
        start = i;
        end = head.group(1) + "}";
      } else if (lines[i].equals(end)) {
        due("the method at line " + (start + 1) + " stays short", i - start < 60, true);
        end = "";
      }
    }
  }

  private static int callAll(JealousChoir x, int i) {
    int a = i % 6;
    int b = (i + 1) % 6;
    int sum = x.write(65) + x.fault() + x.singer(a, i % 9) + x.seat(i % 8) + x.bar() + x.gift(a, 1) + x.change(a, b);
    sum += x.hold(a) + x.pitch() + x.undo() + x.sings(a, 60) + x.notes(60) + x.round(1) + x.unison();
    sum += x.gets(a, 9, 9, 0) + x.best(9, 1) + x.judge(4, 119201300402L) + x.hear(a, 1, 1) + x.had(a) + x.share(a, true);
    sum += x.rests(a, b, 0) + x.hoarse(9, 3, true) + (int) x.seed(i) + x.years(30) + x.keep(0) + x.again(0) + x.count(6);
    return sum + x.unhear();
  }

  private static void makesNothing() {
    JealousChoir x = new JealousChoir();
    String text = "CS00903S15903S25993S39113S42593S57713";
    for (int i = 0; i < text.length(); i++) x.write(text.charAt(i));
    due("singers", x.choir(), 6);
    com.sun.management.ThreadMXBean bean = (com.sun.management.ThreadMXBean) ManagementFactory.getThreadMXBean();
    int sum = callAll(x, 0);
    bean.getThreadAllocatedBytes(Thread.currentThread().getId());
    long before = bean.getThreadAllocatedBytes(Thread.currentThread().getId());
    for (int i = 1; i <= 200; i++) sum += callAll(x, i);
    long made = bean.getThreadAllocatedBytes(Thread.currentThread().getId()) - before;
    // 5600 calls; a single object of 16 bytes in one of each 28 would be 3200 bytes.
    due("calls make objects, " + made + " bytes (" + sum + ")", made < 3200, true);
  }

  public static void main(String[] args) throws Exception {
    face();
    classesInside();
    source();
    makesNothing();
    System.out.println(wrong == 0 ? "FormTest: all is as due" : "FormTest: " + wrong + " things are not as due");
    if (wrong != 0) System.exit(1);
  }
}
