import com.sun.source.tree.CompilationUnitTree;
import com.sun.source.tree.IdentifierTree;
import com.sun.source.tree.MemberSelectTree;
import com.sun.source.tree.MethodInvocationTree;
import com.sun.source.tree.MethodTree;
import com.sun.source.util.JavacTask;
import com.sun.source.util.TreeScanner;
import java.lang.management.ManagementFactory;
import java.lang.reflect.Constructor;
import java.lang.reflect.Field;
import java.lang.reflect.Method;
import java.lang.reflect.Modifier;
import java.nio.file.Files;
import java.nio.file.Path;
import java.util.ArrayList;
import java.util.Arrays;
import java.util.List;
import java.util.Map;
import java.util.Set;
import java.util.TreeMap;
import java.util.TreeSet;
import java.util.regex.Matcher;
import java.util.regex.Pattern;
import javax.tools.JavaCompiler;
import javax.tools.StandardJavaFileManager;
import javax.tools.ToolProvider;

// The public face of the class, and those rules of LANGUAGE.md that a look at it can tell.
public final class Face {
  private static final String[] METHODS = {"type(int)", "clear()", "plan()", "wall(int,int)", "lamp(int,int)",
    "puts(int,int)", "takes(int)", "switches(int)", "builds(int,int,int,int)", "breaks(int)", "undo()",
    "lit(int,int,int)", "by(int,int)", "lights(int)", "all()", "events(int)", "event(int,int,int)",
    "sector(int,int,int)", "walls(int)", "fewest()", "best(int)", "gain(int)", "worst()", "sees(int,int,int)",
    "forget()", "unseen()", "keep(int)", "back(int)", "count(int)"};
  private static final Path SOURCE = Path.of("src/main/java/LampPlans.java");
  private static int wrong = 0;

  private static void must(boolean so, String what) {
    if (so) return;
    wrong++;
    System.out.println("not so: " + what);
  }

  public static void main(String[] args) throws Exception {
    face();
    members(LampPlans.class);
    Class<?>[] inside = LampPlans.class.getDeclaredClasses();
    must(inside.length <= 12, "12 classes at most");
    for (Class<?> own : inside) {
      int modifiers = own.getModifiers();
      must(Modifier.isStatic(modifiers) && !Modifier.isPublic(modifiers) && !Modifier.isProtected(modifiers),
          own + " is static and not public");
      members(own);
    }
    text(Files.readString(SOURCE));
    depth();
    room();
    System.out.println(wrong == 0 ? "the face is as due" : wrong + " things are not as due");
    if (wrong != 0) System.exit(1);
  }

  private static void face() throws Exception {
    Class<?> c = LampPlans.class;
    must(Modifier.isPublic(c.getModifiers()) && Modifier.isFinal(c.getModifiers()), "the class is public and final");
    must(c.getPackageName().isEmpty() && c.getSuperclass() == Object.class && c.getInterfaces().length == 0, "it stands alone");
    Constructor<?>[] made = c.getDeclaredConstructors();
    must(made.length == 1 && Modifier.isPublic(made[0].getModifiers()) && made[0].getParameterCount() == 0, "one constructor");
    Set<String> shown = new TreeSet<>();
    for (Method method : c.getDeclaredMethods()) {
      if (Modifier.isPrivate(method.getModifiers())) continue;
      StringBuilder types = new StringBuilder();
      for (Class<?> type : method.getParameterTypes()) types.append(types.length() == 0 ? "" : ",").append(type.getName());
      shown.add(method.getName() + "(" + types + ")");
      must(Modifier.isPublic(method.getModifiers()) && !Modifier.isStatic(method.getModifiers())
          && method.getReturnType() == int.class && method.getExceptionTypes().length == 0, method + " is as told");
    }
    must(shown.equals(new TreeSet<>(Arrays.asList(METHODS))), "the methods are those of the document: " + shown);
    Set<String> constants = new TreeSet<>();
    for (Field field : c.getDeclaredFields()) {
      if (Modifier.isPrivate(field.getModifiers())) continue;
      must(field.getModifiers() == (Modifier.PUBLIC | Modifier.STATIC | Modifier.FINAL), field + " is a constant");
      constants.add(field.getName() + " " + field.getInt(null));
    }
    must(constants.equals(Set.of("BAD -1", "STATE -2", "FULL -3", "NONE -9", "NO -1000")), "the constants: " + constants);
  }

  private static void members(Class<?> c) {
    Set<String> open = new TreeSet<>();
    for (String method : METHODS) open.add(method.substring(0, method.indexOf('(')));
    int fields = 0;
    for (Field field : c.getDeclaredFields()) {
      boolean isStatic = Modifier.isStatic(field.getModifiers());
      must(!isStatic || Modifier.isFinal(field.getModifiers()) && field.getType() == int.class, field + " is a constant of int");
      if (!isStatic) fields++;
    }
    must(fields <= 20, c + " has 20 fields at most");
    for (Method method : c.getDeclaredMethods()) {
      must(method.getParameterCount() <= 7, method + " takes seven at most");
      must(!method.isSynthetic(), method + " is written out");
      boolean named = c == LampPlans.class && Modifier.isPublic(method.getModifiers());
      must(named || !open.contains(method.getName()), method + " has a name of its own");
    }
  }

  private static void text(String source) {
    String code = source.replaceAll("(?s)/\\*.*?\\*/", " ").replaceAll("//[^\n]*", " ");
    String[] words = {"throw", "try", "catch", "synchronized", "assert", "import", "package", "double", "float", "protected",
      "instanceof", "Object", "var", "System\\.(?!arraycopy)", "->", "::", "Exact", "equals", "hashCode", "toString"};
    for (String word : words) {
      String bounded = Character.isLetter(word.charAt(0)) && !word.contains(".") ? "\\b" + word + "\\b" : word;
      must(!Pattern.compile(bounded).matcher(code).find(), "no " + word + " in the class");
    }
    must(source.chars().allMatch(letter -> letter == '\n' || letter >= 32 && letter < 127), "plain letters alone");
    Matcher method = Pattern.compile("(?m)^( +)(?:[a-zA-Z\\[\\]]+ )+\\w+\\([^;{]*\\) \\{\n(?:.*\n)*?\\1\\}$").matcher(source);
    int methods = 0;
    while (method.find()) {
      methods++;
      long lines = method.group().lines().count();
      must(lines <= 60, "60 lines at most: " + method.group().lines().findFirst().orElse(""));
    }
    must(methods > 50, "methods are found in the text: " + methods);
  }

  // How deep calls go, by names alone: so no two methods may have one name.
  private static void depth() throws Exception {
    Map<String, Set<String>> calls = new TreeMap<>();
    JavaCompiler compiler = ToolProvider.getSystemJavaCompiler();
    try (StandardJavaFileManager files = compiler.getStandardFileManager(null, null, null)) {
      JavacTask task = (JavacTask) compiler.getTask(null, files, null, null, null, files.getJavaFileObjects(SOURCE));
      for (CompilationUnitTree unit : task.parse()) new CallScanner(calls).scan(unit, "");
    }
    for (String method : calls.keySet()) {
      int deep = deep(method, calls, 0);
      must(deep <= 8, method + " goes eight calls deep at most: " + deep);
    }
    must(calls.size() > 50, "methods are found in the tree: " + calls.size());
  }

  private static int deep(String method, Map<String, Set<String>> calls, int above) {
    // A method that calls itself would go on here; the class has none.
    if (above > 20) return 1;
    int below = 0;
    for (String called : calls.getOrDefault(method, Set.of())) below = Math.max(below, deep(called, calls, above + 1));
    return below + 1;
  }

  private static final class CallScanner extends TreeScanner<Void, String> {
    private final Map<String, Set<String>> calls;

    CallScanner(Map<String, Set<String>> calls) {
      this.calls = calls;
    }

    @Override
    public Void visitMethod(MethodTree method, String outer) {
      String name = method.getName().toString();
      must(name.equals("<init>") || !calls.containsKey(name), name + " is the name of one method");
      calls.putIfAbsent(name, new TreeSet<>());
      return super.visitMethod(method, name);
    }

    @Override
    public Void visitMethodInvocation(MethodInvocationTree call, String method) {
      Set<String> called = calls.get(method);
      if (called != null && call.getMethodSelect() instanceof IdentifierTree own) called.add(own.getName().toString());
      if (called != null && call.getMethodSelect() instanceof MemberSelectTree of) called.add(of.getIdentifier().toString());
      return super.visitMethodInvocation(call, method);
    }
  }

  // A run's objects are never given back, so calls use what the constructor made.
  private static void room() throws Exception {
    List<Object> found = new ArrayList<>();
    long elements = reach(new LampPlans(), found);
    must(found.size() <= 100, "100 objects at most in a new one: " + found.size());
    must(elements <= 2500, "2500 fields and elements at most in a new one: " + elements);
    com.sun.management.ThreadMXBean bean = (com.sun.management.ThreadMXBean) ManagementFactory.getThreadMXBean();
    LampPlans x = new LampPlans();
    callAll(x, 20);
    long before = bean.getCurrentThreadAllocatedBytes();
    callAll(x, 20);
    long made = bean.getCurrentThreadAllocatedBytes() - before;
    must(made < 4096, "calls make no objects: " + made + " bytes in 20 rounds");
  }

  private static long reach(Object from, List<Object> found) throws Exception {
    for (Object known : found) if (known == from) return 0;
    found.add(from);
    if (from.getClass().isArray()) {
      int length = java.lang.reflect.Array.getLength(from);
      long elements = length;
      if (from instanceof Object[] objects) for (Object one : objects) if (one != null) elements += reach(one, found);
      return elements;
    }
    long fields = 0;
    for (Field field : from.getClass().getDeclaredFields()) {
      if (Modifier.isStatic(field.getModifiers())) continue;
      fields++;
      field.setAccessible(true);
      Object value = field.getType().isPrimitive() ? null : field.get(from);
      if (value != null) fields += reach(value, found);
    }
    return fields;
  }

  private static void callAll(LampPlans x, int rounds) {
    String text = "b9 9;r1 1 3;u4 2 5;r2 7 6;l0 0;l8 8;l4 4;";
    for (int round = 0; round < rounds; round++) {
      for (int i = 0; i < text.length(); i++) x.type(text.charAt(i));
      x.plan();
      x.clear();
      x.puts(3, 7);
      x.builds(5, 5, 2, 0);
      x.switches(1);
      x.breaks(4);
      x.takes(0);
      x.undo();
      x.keep(0);
      x.back(0);
      x.sees(1, 1, 1);
      x.unseen();
      x.forget();
      for (int n = 0; n < 8; n++) {
        x.wall(n, 0);
        x.lamp(n, 0);
        x.lit(n, 8, 0);
        x.by(n, 0);
        x.lights(n);
        x.events(n);
        x.event(n, 2, 0);
        x.sector(n, 2, 1);
        x.walls(n);
        x.gain(n);
        x.best(n);
        x.count(n);
      }
      x.all();
      x.fewest();
      x.worst();
    }
  }
}
