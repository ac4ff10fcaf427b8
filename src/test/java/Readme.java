import java.lang.reflect.Method;
import java.lang.reflect.Modifier;
import java.net.URL;
import java.net.URLClassLoader;
import java.nio.file.Files;
import java.nio.file.Path;
import java.util.ArrayList;
import java.util.Comparator;
import java.util.List;
import java.util.Set;
import java.util.TreeSet;
import java.util.regex.Matcher;
import java.util.regex.Pattern;
import java.util.stream.Stream;
import javax.tools.ToolProvider;

// Runs the Java rows of README.md, so that what it says of a call stays what the class answers.
public final class Readme {
  private static final Path PAGE = Path.of("README.md");
  private static final Pattern ASKED = Pattern.compile("(plans\\.(\\w+)\\([^;]*\\));\\s+// (-?\\d+|[A-Z]+)(?:: .+)?");
  private static int wrong = 0, asked = 0;

  // Called by the rows, from a class of another loader.
  public static void due(String call, int got, int want) {
    asked++;
    if (got != want) tell(call + " answered " + got + ", README.md says " + want);
  }

  private static void tell(String what) {
    wrong++;
    System.out.println(what);
  }

  public static void main(String[] args) throws Exception {
    Set<String> called = new TreeSet<>();
    StringBuilder body = new StringBuilder();
    for (String row : rows()) body.append(asCode(row, called)).append('\n');
    for (Method method : LampPlans.class.getDeclaredMethods()) {
      boolean open = Modifier.isPublic(method.getModifiers());
      if (open && !called.contains(method.getName())) tell("README.md has no row of " + method.getName() + "()");
    }
    run("public final class Rows { public static void run() {\n" + body + "} }\n");
    if (asked < called.size()) tell("only " + asked + " rows were run");
    System.out.println(asked + " rows run, " + wrong + " not as due");
    if (wrong != 0) System.exit(1);
  }

  private static List<String> rows() throws Exception {
    List<String> rows = new ArrayList<>();
    boolean java = false;
    for (String line : Files.readAllLines(PAGE)) {
      if (line.startsWith("```")) java = line.equals("```java");
      else if (java) rows.add(line);
    }
    return rows;
  }

  private static String asCode(String row, Set<String> called) {
    if (row.contains("plans.type(text.charAt(i))")) called.add("type");
    if (!row.startsWith("plans.")) return row;
    Matcher matcher = ASKED.matcher(row);
    if (!matcher.matches()) {
      tell("README.md says no answer: " + row);
      return "";
    }
    called.add(matcher.group(2));
    String answer = matcher.group(3);
    String want = Character.isLetter(answer.charAt(0)) ? "LampPlans." + answer : answer;
    String call = matcher.group(1);
    return "Readme.due(\"" + call.replace("\"", "\\\"") + "\", " + call + ", " + want + ");";
  }

  private static void run(String code) throws Exception {
    Path folder = Files.createTempDirectory("readme");
    try {
      Path file = Files.writeString(folder.resolve("Rows.java"), code);
      String path = System.getProperty("java.class.path");
      int failed = ToolProvider.getSystemJavaCompiler().run(null, null, null, "-cp", path, "-d", folder.toString(), file.toString());
      if (failed != 0) {
        tell("README.md's rows don't compile");
        return;
      }
      try (URLClassLoader loader = new URLClassLoader(new URL[] {folder.toUri().toURL()}, Readme.class.getClassLoader())) {
        loader.loadClass("Rows").getMethod("run").invoke(null);
      }
    } finally {
      remove(folder);
    }
  }

  private static void remove(Path folder) throws Exception {
    try (Stream<Path> files = Files.walk(folder)) {
      for (Path file : files.sorted(Comparator.reverseOrder()).toList()) Files.delete(file);
    }
  }
}
