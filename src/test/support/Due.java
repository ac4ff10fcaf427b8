import java.lang.reflect.InvocationTargetException;
import java.lang.reflect.Method;
import java.util.Arrays;
import java.util.Comparator;
import java.util.List;
import java.util.Set;
import java.util.TreeSet;
import java.util.function.Supplier;
import java.util.function.ToIntFunction;

/** What the boundary tests have in common. A test is a method whose name begins with its promise's number, as p07_. */
abstract class Due {
  // Written out, so that a wrong constant of the class is told, too.
  static final int BAD = -1, STATE = -2, FULL = -3, NONE = -9, NO = -1000;
  static final int LOW = Integer.MIN_VALUE, HIGH = Integer.MAX_VALUE;
  static final String EIGHT_LAMPS = "l0 0;l1 0;l2 0;l3 0;l4 0;l5 0;l0 1;l1 1;";
  static final String TEN_WALLS = "r0 1 1;".repeat(10);
  // An object is used for 512 calls at most; those that make one are some 150.
  private static final int MOST_PROBES = 350;
  private static String test = "";
  private static int wrong = 0, asked = 0;

  static void due(String call, int got, int want) {
    asked++;
    if (got == want) return;
    wrong++;
    System.out.println(test + ": " + call + " answered " + got + ", due is " + want);
  }

  static void types(LampPlans x, String text) {
    for (int i = 0; i < text.length(); i++) x.type(text.charAt(i));
  }

  static int tells(LampPlans x, String text) {
    types(x, text);
    return x.plan();
  }

  static LampPlans told(String text) {
    LampPlans x = new LampPlans();
    int answer = tells(x, text);
    due("plan() of '" + text + "', below 0", Math.min(answer, 0), 0);
    return x;
  }

  static void dueTold(String text, int want) {
    due("plan() of '" + text + "'", tells(new LampPlans(), text), want);
  }

  static void dueWall(LampPlans x, int w, int... parts) {
    for (int what = 0; what < 4; what++) due("wall(" + w + ", " + what + ")", x.wall(w, what), parts[what]);
  }

  static void dueLamp(LampPlans x, int l, int... parts) {
    for (int what = 0; what < 3; what++) due("lamp(" + l + ", " + what + ")", x.lamp(l, what), parts[what]);
  }

  static void dueCounts(LampPlans x, int... counts) {
    for (int what = 0; what < 7; what++) due("count(" + what + ")", x.count(what), counts[what]);
  }

  /** An object of which nothing is as in a new one: 5, 4; 3 lamps, 3 walls more; 2 seen, 5 letters, 4 to be undone. */
  static LampPlans busy() {
    LampPlans x = told("b5 4;r1 1 2;u3 2 2;l0 0;l4 3;l2 2;");
    x.keep(0);
    x.switches(1);
    x.puts(1, 3);
    x.builds(2, 0, 1, 1);
    x.keep(1);
    x.takes(0);
    x.sees(0, 0, 1);
    x.sees(4, 0, 0);
    types(x, "l1 1;");
    return x;
  }

  /** Calls an object, and holds all that can be asked of it then against another one that was made alike. */
  static void changesNothing(String call, Supplier<LampPlans> made, ToIntFunction<LampPlans> calls, int want) {
    LampPlans x = made.get();
    due(call, calls.applyAsInt(x), want);
    int[] before = probe(made.get()), behind = probe(x);
    due("how many answers differ behind " + call, differing(before, behind), 0);
  }

  private static int differing(int[] one, int[] other) {
    int count = Math.abs(one.length - other.length);
    for (int i = 0; i < Math.min(one.length, other.length); i++) if (one[i] != other[i]) count++;
    return count;
  }

  // Undoes, goes back and reads the text, too, so the object is of no use then.
  private static int[] probe(LampPlans x) {
    Answers answers = new Answers();
    answers.standing(x);
    for (int i = 0; i < 11; i++) answers.add(x.undo());
    answers.standing(x);
    for (int image = 0; image < 2; image++) {
      answers.add(x.back(image));
      answers.standing(x);
    }
    answers.add(x.plan());
    answers.standing(x);
    if (answers.size > MOST_PROBES) due("a test's own calls of an object", answers.size, MOST_PROBES);
    return Arrays.copyOf(answers.all, answers.size);
  }

  private static final class Answers {
    final int[] all = new int[1000];
    int size;

    void add(int answer) {
      all[size++] = answer;
    }

    void standing(LampPlans x) {
      for (int what = 0; what < 7; what++) add(x.count(what));
      int walls = all[size - 5], lamps = all[size - 4];
      for (int w = 4; w < walls; w++) for (int what = 0; what < 4; what++) add(x.wall(w, what));
      for (int l = 0; l < lamps; l++) for (int what = 0; what < 3; what++) add(x.lamp(l, what));
      add(x.unseen());
      add(x.all());
    }
  }

  /** Runs the tests of a class, or those that are named, and ends with 1 if an answer was wrong. */
  static void run(Class<?> tests, int firstPromise, int lastPromise, String[] names) {
    Method[] methods = tests.getDeclaredMethods();
    Arrays.sort(methods, Comparator.comparing(Method::getName));
    Set<Integer> promises = new TreeSet<>();
    int count = 0;
    for (Method method : methods) {
      if (!method.getName().matches("p\\d\\d_\\w+")) continue;
      promises.add(Integer.parseInt(method.getName().substring(1, 3)));
      if (names.length > 0 && !List.of(names).contains(method.getName())) continue;
      count++;
      runTest(method);
    }
    for (int promise = firstPromise; promise <= lastPromise; promise++) {
      test = tests.getName();
      due("a test of promise " + promise, promises.contains(promise) ? 1 : 0, 1);
    }
    System.out.println(count + " tests, " + asked + " answers asked, " + wrong + " not as due");
    if (wrong != 0) System.exit(1);
  }

  private static void runTest(Method method) {
    test = method.getName();
    try {
      method.invoke(null);
    } catch (InvocationTargetException thrown) {
      wrong++;
      System.out.println(test + ": threw " + thrown.getCause());
    } catch (IllegalAccessException thrown) {
      wrong++;
      System.out.println(test + ": can't be run: " + thrown);
    }
  }
}
