import java.lang.reflect.Constructor;
import java.lang.reflect.Field;
import java.lang.reflect.Method;
import java.lang.reflect.Modifier;
import java.nio.file.Files;
import java.nio.file.Path;
import java.util.ArrayList;
import java.util.Arrays;
import java.util.List;
import java.util.Set;
import java.util.TreeSet;
import java.util.regex.Matcher;
import java.util.regex.Pattern;

/** The public face, and those rules of LANGUAGE.md that a test can see. */
public final class FaceTest {
  private static final String FACE = """
      int feed(int,int,int,int,int)
      int end(int)
      int text()
      int fault(int)
      int law(int)
      int say(int)
      boolean folds(int,int,int)
      int ticks(int)
      int width(int)
      int led(int,int,int)
      long sound(int)
      long wave(int,boolean)
      long left(int)
      int foldsOf(int)
      int rhythm(int,int)
      int unsafe(int,int,int)
      int above(int,int,int,int,int,int)
      int tone(int,int,int,int,int,int)
      int alike(int,int,int,int,int)
      int grid(int,int)
      int hear(int,int,int,int)
      boolean look(int)
      int makes(int)
      int maker(int,int,int)
      int nearest(int,int)
      int row(int,int,int)
      int image()
      int back()
      int about(int)
      """;

  private static int wrong = 0;

  private static void check(boolean right, String what) {
    if (!right) {
      wrong++;
      System.out.println("not so: " + what);
    }
  }

  public static void main(String[] args) throws Exception {
    face();
    classes();
    source();
    room();
    if (wrong != 0) System.exit(1);
    System.out.println("the face and the rules are kept");
  }

  private static String signature(Method m) {
    List<String> types = new ArrayList<>();
    for (Class<?> c : m.getParameterTypes()) types.add(c.getName());
    return m.getReturnType().getName() + " " + m.getName() + "(" + String.join(",", types) + ")";
  }

  private static void face() throws Exception {
    Class<?> c = PipeVoice.class;
    check(Modifier.isPublic(c.getModifiers()) && Modifier.isFinal(c.getModifiers()), "public final class");
    Set<String> due = new TreeSet<>(Arrays.asList(FACE.split("\n")));
    Set<String> seen = new TreeSet<>();
    for (Method m : c.getDeclaredMethods()) {
      if (!Modifier.isPrivate(m.getModifiers())) seen.add(signature(m));
    }
    check(seen.equals(due), "the methods: " + seen);
    for (Field f : c.getDeclaredFields()) {
      check(f.getName().equals("NONE") || Modifier.isPrivate(f.getModifiers()), "a field that isn't private: " + f);
    }
    check(Modifier.isPublic(c.getDeclaredField("NONE").getModifiers()), "NONE is public");
    check(PipeVoice.NONE == -1, "NONE is -1");
    Constructor<?>[] made = c.getDeclaredConstructors();
    check(made.length == 1 && Modifier.isPublic(made[0].getModifiers()), "one public constructor");
  }

  private static void classes() {
    Set<String> open = new TreeSet<>();
    for (Method m : PipeVoice.class.getDeclaredMethods()) {
      if (Modifier.isPublic(m.getModifiers())) open.add(m.getName());
    }
    List<Class<?>> all = new ArrayList<>(Arrays.asList(PipeVoice.class.getDeclaredClasses()));
    for (Class<?> c : all) {
      check(Modifier.isStatic(c.getModifiers()), "a class inside is static: " + c);
      check(!Modifier.isPublic(c.getModifiers()) && !Modifier.isProtected(c.getModifiers()), "a class inside is private: " + c);
      check(c.getDeclaredClasses().length == 0, "no class within a class inside: " + c);
    }
    all.add(PipeVoice.class);
    check(all.size() <= 12, "at most twelve classes");
    for (Class<?> c : all) {
      int fields = 0;
      for (Field f : c.getDeclaredFields()) {
        if (Modifier.isStatic(f.getModifiers())) check(Modifier.isFinal(f.getModifiers()), "a static field is final: " + f);
        else fields++;
      }
      check(fields <= 20, "at most twenty fields: " + c);
      for (Method m : c.getDeclaredMethods()) {
        check(m.getParameterCount() <= 7, "at most seven parameters: " + m);
        boolean face = c == PipeVoice.class && Modifier.isPublic(m.getModifiers());
        check(face || !open.contains(m.getName()), "a method with a name of the face: " + m);
        check(!m.isSynthetic(), "no lambda, nothing made by the compiler: " + m);
      }
    }
  }

  private static void source() throws Exception {
    String text = Files.readString(Path.of("src/main/java/PipeVoice.java"));
    for (char c : text.toCharArray()) check(c == '\n' || (c >= 32 && c < 127), "a sign that isn't plain: " + (int) c);
    String code = text.replaceAll("(?s)/\\*.*?\\*/", "").replaceAll("//[^\n]*", "");
    String words = "throw|throws|try|catch|synchronized|assert|import|package|instanceof|double|float|Exception"
        + "|volatile|native|strictfp|Object|hashCode|toString|random|nanoTime|currentTimeMillis|Thread";
    Matcher m = Pattern.compile("\\b(" + words + ")\\b").matcher(code);
    while (m.find()) check(false, "a word that the program needs not: " + m.group());
    check(!code.contains("->") && !code.contains("::") && !code.contains("Exact("), "no lambda, no Exact");
    Matcher calls = Pattern.compile("\\b(Math|Integer|Long|System|Arrays|String)\\.(\\w+)").matcher(code);
    Set<String> allowed = Set.of("Math.max", "Math.min", "Math.abs", "Math.floorDiv", "Math.floorMod",
        "Integer.bitCount", "System.arraycopy");
    while (calls.find()) check(allowed.contains(calls.group()), "a call of the library: " + calls.group());
    lengths(code);
  }

  /** A method of these files begins with a brace at the end of a line that has a bracket, four or eight signs in. */
  private static void lengths(String code) {
    String[] lines = code.split("\n");
    for (int i = 0; i < lines.length; i++) {
      Matcher head = Pattern.compile("^( {4}| {8})\\S.*\\) \\{$").matcher(lines[i]);
      if (!head.matches() || lines[i].strip().matches("(if|for|while|switch|\\}).*")) continue;
      int end = i;
      while (end < lines.length && !lines[end].equals(head.group(1) + "}")) end++;
      check(end - i <= 60, "at most sixty lines: " + lines[i].strip());
    }
  }

  /** The dearest run: a new object and 511 calls. The room holds 7.3 million elements, so one run stays far below. */
  private static void room() {
    var bean = (com.sun.management.ThreadMXBean) java.lang.management.ManagementFactory.getThreadMXBean();
    long thread = Thread.currentThread().getId();
    dearRun();
    long before = bean.getThreadAllocatedBytes(thread);
    dearRun();
    long bytes = bean.getThreadAllocatedBytes(thread) - before;
    check(bytes < 400000, "a run makes less than 400000 bytes: " + bytes);
  }

  private static void dearRun() {
    PipeVoice x = new PipeVoice(5);
    for (int i = 0; i < 5; i++) x.grid(i, 1 << 1 | 1 << 4 | 1 << 8 | 1 << 12);
    for (int i = 0; i < 8; i++) x.hear(i, i % 5, -20, 15);
    for (int i = 0; i < 100; i++) {
      x.row(8, 7, 0);
      x.text();
      x.image();
      x.back();
      if (i % 50 == 0) x.ticks(50);
    }
  }
}
