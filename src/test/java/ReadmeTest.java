import java.nio.file.Files;
import java.nio.file.Path;
import java.util.ArrayList;
import java.util.List;
import java.util.Set;
import java.util.TreeSet;
import java.util.regex.Matcher;
import java.util.regex.Pattern;
import javax.tools.ToolProvider;

/** Compiles what README.md shows and runs it: each call must answer what stands behind it there. */
public final class ReadmeTest {
  // A call, and behind it "// its answer: why".
  private static final Pattern CALL = Pattern.compile("^(\\S.*\\));\\s*// (-?\\d+|true|false): .*$");
  private static final int FEWEST_CALLS = 30;

  public static void main(String[] args) throws Exception {
    List<String> blocks = blocks(Files.readString(Path.of("README.md")));
    if (blocks.size() != 2) throw new IllegalStateException("a method, then calls, were meant: " + blocks.size());
    int calls = 0;
    Set<String> used = new TreeSet<>();
    StringBuilder body = new StringBuilder();
    for (String line : blocks.get(1).split("\n")) {
      Matcher m = CALL.matcher(line);
      if (m.matches()) {
        calls++;
        body.append("due(").append(calls).append(", ").append(m.group(1)).append(", ").append(m.group(2)).append(");\n");
      } else {
        body.append(line).append('\n');
      }
      Matcher name = Pattern.compile("voice\\.(\\w+)\\(").matcher(line);
      while (name.find()) used.add(name.group(1));
    }
    if (calls < FEWEST_CALLS) throw new IllegalStateException("too few calls were found: " + calls);
    everyMethod(used, blocks.get(0));
    int wrong = run(blocks.get(0), body.toString());
    System.out.println(wrong == 0 ? calls + " answers of README.md are as due" : wrong + " answers of README.md are not as due");
    if (wrong != 0) System.exit(1);
  }

  private static List<String> blocks(String page) {
    List<String> blocks = new ArrayList<>();
    Matcher m = Pattern.compile("(?s)```java\n(.*?)```").matcher(page);
    while (m.find()) blocks.add(m.group(1));
    return blocks;
  }

  private static void everyMethod(Set<String> used, String helper) {
    for (var m : PipeVoice.class.getDeclaredMethods()) {
      boolean open = java.lang.reflect.Modifier.isPublic(m.getModifiers());
      if (open && !used.contains(m.getName()) && !helper.contains("voice." + m.getName() + "(")) {
        throw new IllegalStateException("README.md doesn't show " + m.getName());
      }
    }
  }

  private static int run(String helper, String body) throws Exception {
    Path dir = Files.createTempDirectory("readme");
    Path file = dir.resolve("Shown.java");
    try {
      Files.writeString(file, """
          public final class Shown {
            private static int wrong = 0;
            private static void due(int call, Object got, Object want) {
              if (!got.toString().equals(want.toString())) {
                wrong++;
                System.out.println("call " + call + " of README.md answered " + got + ", due is " + want);
              }
            }
            %s
            public static int main() {
              %s
              return wrong;
            }
          }
          """.formatted(helper, body));
      String path = System.getProperty("java.class.path");
      int failed = ToolProvider.getSystemJavaCompiler().run(null, null, null, "-cp", path, "-d", dir.toString(), file.toString());
      if (failed != 0) throw new IllegalStateException("what README.md shows doesn't compile");
      try (var loader = new java.net.URLClassLoader(new java.net.URL[] {dir.toUri().toURL()})) {
        return (int) loader.loadClass("Shown").getMethod("main").invoke(null);
      }
    } finally {
      for (String name : new String[] {"Shown.java", "Shown.class"}) Files.deleteIfExists(dir.resolve(name));
      Files.deleteIfExists(dir);
    }
  }
}
