// Each promise of the document by number: ordinary inputs, the edges that it names, wrong inputs.
public final class Promises {
  private static final int BAD = -1, STATE = -2, FULL = -3, NONE = -9, NO = -1000;
  private static final int LOW = Integer.MIN_VALUE, HIGH = Integer.MAX_VALUE;
  private static int wrong = 0, asked = 0;

  private static void due(String call, int got, int want) {
    asked++;
    if (got != want) {
      wrong++;
      System.out.println(call + " answered " + got + ", due is " + want);
    }
  }

  private static void types(LampPlans x, String text) {
    for (int i = 0; i < text.length(); i++) x.type(text.charAt(i));
  }

  private static int tells(LampPlans x, String text) {
    types(x, text);
    return x.plan();
  }

  private static LampPlans told(String text) {
    LampPlans x = new LampPlans();
    int answer = tells(x, text);
    due("'" + text + "' is a plan", answer < 0 ? answer : 0, 0);
    return x;
  }

  private static void dueWall(String when, LampPlans x, int w, int... parts) {
    for (int what = 0; what < 4; what++) due(when + ": wall(" + w + ", " + what + ")", x.wall(w, what), parts[what]);
  }

  private static void dueLamp(String when, LampPlans x, int l, int... parts) {
    for (int what = 0; what < 3; what++) due(when + ": lamp(" + l + ", " + what + ")", x.lamp(l, what), parts[what]);
  }

  private static void dueCounts(String when, LampPlans x, int... counts) {
    for (int what = 0; what < 7; what++) due(when + ": count(" + what + ")", x.count(what), counts[what]);
  }

  public static void main(String[] args) {
    newObject();
    type();
    clear();
    planAnswers();
    planChanges();
    wallAndLamp();
    puts();
    takes();
    switches();
    builds();
    breaks();
    undo();
    lit();
    by();
    lightsAndAll();
    events();
    sectors();
    sectorAreas();
    fewest();
    best();
    gainAndWorst();
    sees();
    unseen();
    keepAndBack();
    count();
    System.out.println(asked + " answers asked, " + wrong + " not as due");
    if (wrong != 0) System.exit(1);
  }

  private static void newObject() {
    LampPlans x = new LampPlans();
    dueCounts("1 new", x, 6, 6, 4, 0, 0, 0, 0);
    dueWall("1 new", x, 0, 0, 0, 6, 0);
    dueWall("1 new", x, 1, 6, 0, 6, 1);
    dueWall("1 new", x, 2, 0, 6, 6, 0);
    dueWall("1 new", x, 3, 0, 0, 6, 1);
    due("1 new: wall(4, 0)", x.wall(4, 0), BAD);
    due("1 new: lamp(0, 0)", x.lamp(0, 0), BAD);
    due("1 new: undo()", x.undo(), STATE);
    due("1 new: back(0)", x.back(0), STATE);
    due("1 new: back(1)", x.back(1), STATE);
    due("1 new: clear()", x.clear(), 0);
    due("1 new: all()", x.all(), 0);
    due("1 new: by(5, 5)", x.by(5, 5), 0);
    due("1 new: unseen()", x.unseen(), 0);
    LampPlans other = new LampPlans();
    x.puts(1, 1);
    x.builds(1, 1, 1, 1);
    dueCounts("1 another", other, 6, 6, 4, 0, 0, 0, 0);
  }

  private static void type() {
    LampPlans x = new LampPlans();
    due("2 type(-1)", x.type(-1), BAD);
    due("2 type(256)", x.type(256), BAD);
    due("2 type(LOW)", x.type(LOW), BAD);
    due("2 type(HIGH)", x.type(HIGH), BAD);
    due("2 count(5)", x.count(5), 0);
    due("2 type(0)", x.type(0), 1);
    due("2 type(255)", x.type(255), 2);
    for (int i = 3; i <= 120; i++) due("2 type(32)", x.type(32), i);
    due("2 type at 120", x.type(32), FULL);
    due("2 type at 120, a wrong one", x.type(256), BAD);
    due("2 count(5)", x.count(5), 120);
    due("2 plan()", x.plan(), -10);
    x.clear();
    due("2 type(108)", x.type(108), 1);
    LampPlans full = new LampPlans();
    types(full, " ".repeat(115) + "l0 0;");
    due("2 120 letters are told", full.plan(), 1);
    types(full, " ".repeat(116) + "l0 0;");
    due("2 the 121st is not there", full.plan(), -130);
  }

  private static void clear() {
    LampPlans x = new LampPlans();
    due("3 clear()", x.clear(), 0);
    types(x, "l0 0");
    due("3 clear()", x.clear(), 4);
    due("3 clear()", x.clear(), 0);
    due("3 count(5)", x.count(5), 0);
    due("3 plan()", tells(x, "l1 1;"), 1);
    dueLamp("3", x, 0, 1, 1, 1);
    x.sees(0, 0, 1);
    x.keep(0);
    x.puts(0, 0);
    x.type(32);
    due("3 clear()", x.clear(), 1);
    dueCounts("3 nothing else is gone", x, 6, 6, 4, 2, 1, 0, 1);
    due("3 back(0)", x.back(0), 1);
  }

  private static final Object[][] TEXTS = {
    {"", 0}, {"     ", 0}, {"b2 9;", 1}, {"b9 2;", 1}, {" b 3 3 ; r 0 0 3 ; ", 2}, {"b3 3;u0 0 3;l2 2;", 3},
    {"l0 0;l5 5;", 2}, {"r0 0 6;r0 6 6;u6 0 6;u0 0 6;", 4}, {"r5 6 1;u6 5 1;", 2},
    {"b1 3;", -11}, {"b3 1;", -13}, {"b0 3;", -11}, {"b10 3;", -11}, {"b03 3;", -11}, {"b3 03;", -13},
    {"b3 10;", -13}, {"b  99999999999999999999 3", -13}, {"b", -11}, {"b ", -12}, {"b3", -12}, {"b3 ", -13},
    {"b3 3", -14}, {"b3 3 ", -15}, {"b3 3;;", -15}, {"b3 3 3;", -15}, {"b3;", -12}, {"b;", -11}, {"bb", -11},
    {";", -10}, {"3", -10}, {"12", -10}, {"x", -10}, {" x", -11}, {"B3 3;", -10}, {"\t", -10}, {"\n", -10},
    {"b3 3;b3 3;", -15}, {"b3 3;  b", -17}, {"r0 0 1;b3 3;", -17}, {"l0 0;b", -15},
    {"b3 3;r3 0 1;", -16}, {"b3 3;r2 3 1;", 2}, {"b3 3;r2 4 1;", -18}, {"b3 3;r2 3 2;", -20}, {"b3 3;r2 3 0;", -20},
    {"b3 3;r0 0 4;", -20}, {"b3 3;r4 0 1;", -16}, {"b3 3;u3 2 1;", 2}, {"b3 3;u3 3 1;", -18}, {"b3 3;u4 0 1;", -16},
    {"b3 3;u3 2 2;", -20}, {"b3 3;u0 0 0;", -20}, {"b3 3;u0 0 4;", -20}, {"b3 3;u3 4", -18},
    {"b4 2;r3 2 1;u4 1 1;", 3}, {"b4 2;r0 0 4;u0 0 2;", 3}, {"b4 2;u0 0 3;", -20}, {"b2 4;r0 0 3;", -20},
    {"b2 4;r1 4 1;u2 3 1;l1 3;", 4}, {"b3 2;l2 1;", 2}, {"b3 2;l3 1;", -16}, {"b3 2;l2 2;", -18}, {"l6 0;", -11},
    {"l0 6;", -13}, {"l9 9;", -11}, {"l0 0;l0  0;", -19}, {"l0 0;l0 0", -18}, {"l0 0;l0", -17}, {"l0 1;l1 0;l1 1;", 3},
    {"r123 0 1;", -11}, {"r1 00 1;", -13}, {"r1 0 01;", -15}, {"r1 0;", -14}, {"rr", -11}, {"r0 0 1 1;", -17},
    {"r0 0 1", -16}, {"r0 0 1l", -16}, {"r0 0 1  ", -18}, {"r0 0x1;", -14}, {"r0,0 1;", -12}, {"r-1 0 1;", -11},
    {"r6 0 1;", -11}, {"u0 6 1;", -13}, {"u6 5 1;", 1}, {"u7 5 1;", -11}, {"r0 7 1;", -13}, {"u 1 2 3 ;l 0 0 ;", 2},
    {"l0 0 0;", -15}, {"l0 0;\u00e9", -15}, {"l0 0;0", -15}, {"ub", -11}, {"lr", -11}, {"l0 l", -13}, {"l00;", -11},
  };

  private static void planAnswers() {
    for (Object[] row : TEXTS) {
      LampPlans x = new LampPlans();
      due("4 plan() of '" + row[0] + "'", tells(x, (String) row[0]), (Integer) row[1]);
    }
    String lamps = "l0 0;l1 0;l2 0;l3 0;l4 0;l5 0;l0 1;l1 1;";
    due("4 8 lamps", tells(new LampPlans(), lamps), 8);
    due("4 9 lamps", tells(new LampPlans(), lamps + "l2 1;"), -50);
    due("4 9 lamps, a letter of the last", tells(new LampPlans(), lamps + " l"), -51);
    due("4 8 lamps and a wall", tells(new LampPlans(), lamps + "r0 0 1;"), 9);
    String walls = "r0 0 1;".repeat(10);
    due("4 10 walls", tells(new LampPlans(), walls), 10);
    due("4 11 walls", tells(new LampPlans(), walls + "r0 0 1;"), -80);
    due("4 11 walls, the last up", tells(new LampPlans(), walls + "u"), -80);
    due("4 10 walls and a lamp", tells(new LampPlans(), walls + "l0 0;"), 11);
    due("4 10 walls behind b", tells(new LampPlans(), "b2 2;" + walls), 11);
  }

  private static void planChanges() {
    LampPlans x = told("b4 3;r1 1 2;u2 0 3;l3 2;l0 0;");
    dueCounts("4 told", x, 4, 3, 6, 2, 0, 0, 0);
    dueWall("4 told", x, 0, 0, 0, 4, 0);
    dueWall("4 told", x, 1, 4, 0, 3, 1);
    dueWall("4 told", x, 2, 0, 3, 4, 0);
    dueWall("4 told", x, 3, 0, 0, 3, 1);
    dueWall("4 told", x, 4, 1, 1, 2, 0);
    dueWall("4 told", x, 5, 2, 0, 3, 1);
    dueLamp("4 told", x, 0, 3, 2, 1);
    dueLamp("4 told", x, 1, 0, 0, 1);
    x.sees(1, 2, 0);
    x.keep(0);
    x.keep(1);
    x.switches(1);
    due("4 a fault", tells(x, "b2 2;l1 1;l2 1;"), -21);
    dueCounts("4 behind a fault", x, 4, 3, 6, 2, 1, 15, 1);
    dueWall("4 behind a fault", x, 4, 1, 1, 2, 0);
    dueLamp("4 behind a fault", x, 0, 3, 2, 1);
    dueLamp("4 behind a fault", x, 1, 0, 0, 0);
    due("4 the same fault", x.plan(), -21);
    due("4 behind a fault: undo()", x.undo(), 0);
    due("4 behind a fault: back(0)", x.back(0), 2);
    x.clear();
    x.switches(0);
    due("4 told anew", tells(x, "l1 1;"), 1);
    dueCounts("4 told anew", x, 6, 6, 4, 1, 0, 0, 0);
    dueWall("4 told anew", x, 1, 6, 0, 6, 1);
    dueLamp("4 told anew", x, 0, 1, 1, 1);
    due("4 told anew: undo()", x.undo(), STATE);
    due("4 told anew: back(0)", x.back(0), STATE);
    due("4 told anew: back(1)", x.back(1), STATE);
    x.puts(2, 2);
    x.builds(0, 1, 1, 0);
    due("4 told nothing", x.plan(), 0);
    dueCounts("4 told nothing", x, 6, 6, 4, 0, 0, 0, 0);
  }

  private static void wallAndLamp() {
    LampPlans x = told("r2 3 4;u5 1 2;l4 3;l1 5;");
    dueWall("5", x, 4, 2, 3, 4, 0);
    dueWall("5", x, 5, 5, 1, 2, 1);
    for (int w : new int[] {-1, 6, 14, LOW, HIGH}) due("5 wall(" + w + ", 0)", x.wall(w, 0), BAD);
    for (int what : new int[] {-1, 4, LOW, HIGH}) due("5 wall(0, " + what + ")", x.wall(0, what), BAD);
    dueLamp("6", x, 0, 4, 3, 1);
    x.switches(1);
    dueLamp("6", x, 1, 1, 5, 0);
    for (int l : new int[] {-1, 2, 8, LOW, HIGH}) due("6 lamp(" + l + ", 0)", x.lamp(l, 0), BAD);
    for (int what : new int[] {-1, 3, LOW, HIGH}) due("6 lamp(0, " + what + ")", x.lamp(0, what), BAD);
  }

  private static void puts() {
    LampPlans x = told("b5 3;");
    int[][] beyond = {{-1, 0}, {0, -1}, {5, 0}, {0, 3}, {LOW, 0}, {0, HIGH}};
    for (int[] spot : beyond) due("7 puts beyond", x.puts(spot[0], spot[1]), BAD);
    due("7 puts(4, 2)", x.puts(4, 2), 1);
    dueLamp("7", x, 0, 4, 2, 1);
    due("7 puts(4, 2)", x.puts(4, 2), STATE);
    x.switches(0);
    due("7 puts at one that is off", x.puts(4, 2), STATE);
    for (int i = 0; i < 5; i++) due("7 puts", x.puts(i, 0), i + 2);
    due("7 puts", x.puts(0, 1), 7);
    due("7 puts", x.puts(2, 1), 8);
    dueLamp("7", x, 7, 2, 1, 1);
    due("7 puts a 9th", x.puts(3, 1), FULL);
    due("7 puts a 9th at one", x.puts(2, 1), STATE);
    due("7 puts a 9th beyond", x.puts(5, 1), BAD);
    due("7 count(3)", x.count(3), 8);
    due("7 the refused are not known", x.count(6), 9);
  }

  private static void takes() {
    LampPlans x = told("l0 0;l1 1;l2 2;l3 3;");
    x.switches(2);
    for (int l : new int[] {-1, 4, LOW, HIGH}) due("8 takes(" + l + ")", x.takes(l), BAD);
    due("8 count(6)", x.count(6), 1);
    due("8 takes(1)", x.takes(1), 3);
    dueLamp("8", x, 0, 0, 0, 1);
    dueLamp("8", x, 1, 2, 2, 0);
    dueLamp("8", x, 2, 3, 3, 1);
    due("8 lamp(3, 0)", x.lamp(3, 0), BAD);
    due("8 takes(2)", x.takes(2), 2);
    due("8 takes(0)", x.takes(0), 1);
    dueLamp("8", x, 0, 2, 2, 0);
    due("8 takes(0)", x.takes(0), 0);
    due("8 takes(0)", x.takes(0), BAD);
    due("8 puts(2, 2)", x.puts(2, 2), 1);
    dueLamp("8 put anew it is on", x, 0, 2, 2, 1);
  }

  private static void switches() {
    LampPlans x = told("l0 0;l1 1;");
    for (int l : new int[] {-1, 2, LOW, HIGH}) due("9 switches(" + l + ")", x.switches(l), BAD);
    due("9 count(6)", x.count(6), 0);
    due("9 switches(1)", x.switches(1), 0);
    due("9 lamp(0, 2)", x.lamp(0, 2), 1);
    due("9 lamp(1, 2)", x.lamp(1, 2), 0);
    due("9 by(0, 0)", x.by(0, 0), 1);
    due("9 switches(1)", x.switches(1), 1);
    due("9 lamp(1, 2)", x.lamp(1, 2), 1);
    due("9 by(0, 0)", x.by(0, 0), 3);
    due("9 count(6)", x.count(6), 2);
  }

  private static void builds() {
    LampPlans x = told("b5 3;");
    int[][] wrongOnes = {{-1, 0, 1, 0}, {0, -1, 1, 0}, {6, 0, 1, 1}, {0, 4, 1, 0}, {5, 0, 1, 0}, {0, 3, 1, 1},
      {0, 0, 0, 0}, {0, 0, -1, 1}, {0, 0, 6, 0}, {0, 0, 4, 1}, {4, 0, 2, 0}, {0, 2, 2, 1}, {0, 0, 1, 2},
      {0, 0, 1, -1}, {1, 1, HIGH, 0}, {1, 1, HIGH, 1}, {LOW, 0, 1, 0}, {0, HIGH, 1, 1}, {HIGH, 0, HIGH, 0}};
    for (int[] w : wrongOnes) due("10 builds wrong", x.builds(w[0], w[1], w[2], w[3]), BAD);
    due("10 count(2)", x.count(2), 4);
    due("10 builds(0, 3, 5, 0)", x.builds(0, 3, 5, 0), 5);
    due("10 builds(5, 0, 3, 1)", x.builds(5, 0, 3, 1), 6);
    due("10 builds(4, 1, 1, 0)", x.builds(4, 1, 1, 0), 7);
    due("10 builds(2, 2, 1, 1)", x.builds(2, 2, 1, 1), 8);
    dueWall("10", x, 4, 0, 3, 5, 0);
    dueWall("10", x, 5, 5, 0, 3, 1);
    dueWall("10", x, 6, 4, 1, 1, 0);
    dueWall("10", x, 7, 2, 2, 1, 1);
    for (int i = 9; i <= 14; i++) due("10 builds the same", x.builds(1, 1, 1, 1), i);
    due("10 builds a 15th", x.builds(1, 1, 1, 1), FULL);
    due("10 builds a wrong 15th", x.builds(1, 1, 3, 1), BAD);
    due("10 count(2)", x.count(2), 14);
    due("10 count(6)", x.count(6), 10);
  }

  private static void breaks() {
    LampPlans x = told("r0 1 1;r1 2 2;u3 3 3;");
    for (int w : new int[] {-1, 0, 1, 2, 3, 7, LOW, HIGH}) due("11 breaks(" + w + ")", x.breaks(w), BAD);
    due("11 count(6)", x.count(6), 0);
    due("11 breaks(5)", x.breaks(5), 6);
    dueWall("11", x, 4, 0, 1, 1, 0);
    dueWall("11", x, 5, 3, 3, 3, 1);
    due("11 wall(6, 0)", x.wall(6, 0), BAD);
    due("11 breaks(4)", x.breaks(4), 5);
    dueWall("11", x, 3, 0, 0, 6, 1);
    dueWall("11", x, 4, 3, 3, 3, 1);
    due("11 breaks(4)", x.breaks(4), 4);
    due("11 breaks(4)", x.breaks(4), BAD);
  }

  private static void undo() {
    LampPlans x = told("r0 1 1;u2 2 2;l0 0;l1 1;l2 2;");
    due("12 undo()", x.undo(), STATE);
    x.switches(1);
    x.takes(1);
    x.puts(5, 5);
    x.breaks(4);
    x.builds(4, 4, 2, 0);
    due("12 count(6)", x.count(6), 5);
    x.takes(9);
    x.puts(5, 5);
    x.builds(0, 0, 9, 0);
    x.breaks(0);
    x.switches(-1);
    due("12 the refused are not known", x.count(6), 5);
    due("12 builds undone", x.undo(), 4);
    due("12 count(2)", x.count(2), 5);
    dueWall("12", x, 4, 2, 2, 2, 1);
    due("12 breaks undone", x.undo(), 3);
    dueWall("12", x, 4, 0, 1, 1, 0);
    dueWall("12", x, 5, 2, 2, 2, 1);
    due("12 puts undone", x.undo(), 2);
    due("12 count(3)", x.count(3), 2);
    due("12 takes undone", x.undo(), 1);
    dueLamp("12", x, 0, 0, 0, 1);
    dueLamp("12", x, 1, 1, 1, 0);
    dueLamp("12", x, 2, 2, 2, 1);
    due("12 switches undone", x.undo(), 0);
    dueLamp("12", x, 1, 1, 1, 1);
    due("12 undo()", x.undo(), STATE);
    for (int i = 1; i <= 13; i++) {
      x.switches(i % 3);
      due("12 count(6)", x.count(6), Math.min(i, 10));
    }
    for (int left = 9; left >= 0; left--) due("12 ten are known", x.undo(), left);
    due("12 older ones are lost", x.undo(), STATE);
    due("12 lamp(0, 2)", x.lamp(0, 2), 0);
    due("12 lamp(1, 2)", x.lamp(1, 2), 0);
    due("12 lamp(2, 2)", x.lamp(2, 2), 0);
    x.sees(0, 0, 1);
    x.type(32);
    x.puts(4, 4);
    x.keep(0);
    due("12 undo()", x.undo(), 0);
    dueCounts("12 nothing else is undone", x, 6, 6, 6, 3, 1, 1, 0);
    due("12 back(0)", x.back(0), 4);
  }

  private static void lit() {
    LampPlans x = told("b5 5;u2 1 1;l0 0;l4 4;");
    due("13 its own spot", x.lit(0, 0, 0), 1);
    due("13 free", x.lit(0, 4, 0), 1);
    // From 0.5, 0.5 to 4.5, 3.5: at x 2 it is at y 1.625.
    due("13 behind the wall", x.lit(0, 4, 3), 0);
    // From 0.5, 0.5 to 3.5, 1.5: at x 2 it is at y 1, the wall's end.
    due("13 at the wall's end", x.lit(0, 3, 1), 0);
    // From 0.5, 0.5 to 3.5, 3.5: at x 2 it is at y 2, the wall's other end.
    due("13 at the wall's other end", x.lit(0, 3, 3), 0);
    due("13 through the wall", x.lit(0, 3, 2), 0);
    due("13 above the wall", x.lit(0, 2, 3), 1);
    due("13 ahead of the wall", x.lit(0, 1, 1), 1);
    due("13 below the wall", x.lit(0, 4, 1), 1);
    x.switches(0);
    due("13 one that is off", x.lit(0, 4, 0), 1);
    due("13 one that is off", x.lit(0, 3, 2), 0);
    due("13 the other way", x.lit(1, 0, 0), 0);
    int[][] wrongOnes = {{-1, 0, 0}, {2, 0, 0}, {0, -1, 0}, {0, 5, 0}, {0, 0, -1}, {0, 0, 5}, {LOW, 0, 0},
      {HIGH, 0, 0}, {0, HIGH, 0}, {0, 0, LOW}};
    for (int[] w : wrongOnes) due("13 lit wrong", x.lit(w[0], w[1], w[2]), BAD);
    LampPlans y = told("b5 5;r1 2 1;l0 0;l1 4;");
    due("13 at the end of one to the right", y.lit(0, 1, 3), 0);
    due("13 at its other end", y.lit(0, 4, 4), 0);
    due("13 beside it", y.lit(0, 0, 4), 1);
    due("13 down through it", y.lit(1, 1, 0), 0);
    due("13 down beside it", y.lit(1, 0, 0), 1);
    due("13 a point where two walls meet", told("r0 1 1;u1 0 1;l0 0;").lit(0, 1, 1), 0);
    due("13 a side's wall twice", told("r0 0 6;l0 0;").lit(0, 5, 0), 1);
  }

  private static void by() {
    LampPlans x = told("b4 4;u2 0 4;l0 0;l3 3;l1 3;");
    due("14 by(0, 0)", x.by(0, 0), 5);
    due("14 by(3, 0)", x.by(3, 0), 2);
    x.switches(2);
    due("14 by(0, 0)", x.by(0, 0), 1);
    due("14 by(1, 3)", x.by(1, 3), 1);
    x.switches(1);
    due("14 by(3, 3)", x.by(3, 3), 0);
    int[][] wrongOnes = {{-1, 0}, {0, -1}, {4, 0}, {0, 4}, {LOW, 0}, {0, HIGH}};
    for (int[] w : wrongOnes) due("14 by wrong", x.by(w[0], w[1]), BAD);
    LampPlans y = told("b9 9;l0 0;l1 0;l2 0;l3 0;l4 0;l5 0;l6 0;l7 0;");
    due("14 by eight", y.by(8, 8), 255);
  }

  private static void lightsAndAll() {
    LampPlans x = told("b4 4;u2 0 4;l0 0;l3 3;l1 3;");
    due("15 lights(0)", x.lights(0), 8);
    x.switches(1);
    due("15 lights(1), off", x.lights(1), 8);
    for (int l : new int[] {-1, 3, LOW, HIGH}) due("15 lights(" + l + ")", x.lights(l), BAD);
    due("16 all()", x.all(), 8);
    x.switches(1);
    due("16 all()", x.all(), 16);
    x.switches(0);
    due("16 all()", x.all(), 16);
    x.switches(2);
    due("16 all()", x.all(), 8);
    x.switches(1);
    due("16 all()", x.all(), 0);
    due("15 of 9, 9", told("b9 9;l4 4;").lights(0), 81);
    due("16 of 2, 9", told("b2 9;l1 8;").all(), 18);
  }

  private static void events() {
    LampPlans x = told("b3 2;l0 0;l1 1;");
    // Corners from 0.5, 0.5: 3, 2; 0, 2; 0, 0; 3, 0.
    int[][] first = {{5, 3}, {-1, 3}, {-1, -1}, {5, -1}};
    dueEvents("18", x, 0, first);
    // From 1.5, 1.5: 1.5, 0.5; -1.5, 0.5; -1.5, -1.5; 1.5, -1.5.
    int[][] second = {{3, 1}, {-3, 1}, {-1, -1}, {1, -1}};
    dueEvents("18", x, 1, second);
    for (int l : new int[] {-1, 2, LOW, HIGH}) {
      due("17 events(" + l + ")", x.events(l), BAD);
      due("18 event(" + l + ", 0, 0)", x.event(l, 0, 0), NO);
    }
    for (int k : new int[] {-1, 4, LOW, HIGH}) due("18 event(0, " + k + ", 0)", x.event(0, k, 0), NO);
    for (int what : new int[] {-1, 2, LOW, HIGH}) due("18 event(0, 0, " + what + ")", x.event(0, 0, what), NO);
    x.switches(0);
    due("17 one that is off", x.events(0), 4);
    // A cross of walls: its middle 2, 2 is no end but an event; 1, 2 and 3, 2 and 2, 1 and 2, 3 are ends.
    LampPlans y = told("b4 4;r1 2 2;u2 1 2;l0 0;");
    int[][] cross = {{3, 1}, {5, 3}, {1, 1}, {3, 5}, {1, 3}, {-1, 7}, {-1, -1}, {7, -1}};
    dueEvents("18 the cross", y, 0, cross);
    // Here nothing else is towards the middle of the cross, 3, 2.
    int[][] middle = {{5, 1}, {7, 3}, {5, 3}, {1, 1}, {1, 3}, {-1, 9}, {-1, -1}, {9, -1}};
    dueEvents("18 a cross beside the diagonal", told("b5 5;r1 2 3;u3 1 2;l0 0;"), 0, middle);
    LampPlans two = told("b3 2;l0 0;l1 1;");
    due("18 of one lamp", two.event(0, 0, 0), 5);
    due("18 then of another", two.event(1, 0, 0), 3);
    // Two walls to the right that touch have no point in common with one up.
    LampPlans z = told("b4 4;r0 2 4;r1 2 2;l1 0;");
    // Corners 1.5, .5 -> 5, -1; 5, 7; -3, 7; -3, -1; ends 0, 2; 4, 2; 1, 2; 3, 2.
    int[][] ends = {{5, 3}, {1, 1}, {5, 7}, {-1, 3}, {-3, 7}, {-1, 1}, {-3, -1}, {5, -1}};
    dueEvents("18 ends", z, 0, ends);
  }

  private static void dueEvents(String when, LampPlans x, int l, int[][] want) {
    due(when + ": events(" + l + ")", x.events(l), want.length);
    for (int k = 0; k < want.length; k++) {
      due(when + ": event(" + l + ", " + k + ", 0)", x.event(l, k, 0), want[k][0]);
      due(when + ": event(" + l + ", " + k + ", 1)", x.event(l, k, 1), want[k][1]);
    }
    due(when + ": event(" + l + ", one more, 0)", x.event(l, want.length, 0), NO);
  }

  private static void dueSectors(String when, LampPlans x, int l, int[][] want) {
    for (int k = 0; k < want.length; k++) {
      for (int what = 0; what < 3; what++) {
        due(when + ": sector(" + l + ", " + k + ", " + what + ")", x.sector(l, k, what), want[k][what]);
      }
    }
    due(when + ": sector(" + l + ", one more, 0)", x.sector(l, want.length, 0), NONE);
  }

  private static void sectors() {
    LampPlans x = told("b3 2;l0 0;");
    // Triangles of the lamp at 0.5, 0.5 with the sides: 3 * 1.5 / 2, 2 * 0.5 / 2, 3 * 0.5 / 2, 2 * 2.5 / 2.
    dueSectors("19", x, 0, new int[][] {{2, 9, 4}, {3, 1, 2}, {0, 3, 4}, {1, 5, 2}});
    due("20 walls(0)", x.walls(0), 15);
    for (int l : new int[] {-1, 1, LOW, HIGH}) {
      due("19 sector(" + l + ", 0, 0)", x.sector(l, 0, 0), BAD);
      due("20 walls(" + l + ")", x.walls(l), BAD);
    }
    for (int what : new int[] {-1, 3, LOW, HIGH}) {
      due("19 sector(0, 0, " + what + ")", x.sector(0, 0, what), BAD);
      due("19 sector(0, 9, " + what + ")", x.sector(0, 9, what), BAD);
    }
    for (int what = 0; what < 3; what++) {
      due("19 sector(0, 4, " + what + ")", x.sector(0, 4, what), NONE);
      due("19 sector(0, HIGH, " + what + ")", x.sector(0, HIGH, what), NONE);
      due("19 sector(0, -1, " + what + ")", x.sector(0, -1, what), BAD);
      due("19 sector(0, LOW, " + what + ")", x.sector(0, LOW, what), BAD);
    }
    x.switches(0);
    due("20 one that is off", x.walls(0), 15);
    // Walls 4 and 5 at one place, and one upon side 0: the lowest counts; behind 4 wall 7 is not met.
    LampPlans y = told("b4 4;r0 1 4;r0 1 4;r0 0 4;r1 2 2;l1 0;");
    due("20 the lowest of several", y.walls(0), 1 + 2 + 8 + 16);
    due("20 broken, the next is met", y.breaks(4), 7);
    due("20 the lowest of several", y.walls(0), 1 + 2 + 8 + 16);
    y.breaks(4);
    // Now 4 is upon side 0, 5 is from 1, 2 to 3, 2, seen from 1.5, 0.5 ahead of side 2.
    due("20 one in the middle", y.walls(0), 1 + 2 + 4 + 8 + 32);
    // A wall that is longer upon a shorter one: beside the shorter it is the longer that is met.
    LampPlans z = told("b4 4;r1 1 1;r0 1 4;l1 0;");
    due("20 a side is hidden", told("b2 2;r0 1 2;l0 1;").walls(0), 2 + 4 + 8 + 16);
    due("20 a longer behind a shorter", z.walls(0), 1 + 2 + 8 + 16 + 32);
  }

  private static void sectorAreas() {
    LampPlans x = told("b4 4;r1 2 2;u2 1 2;l0 0;");
    // Events 3, 1; 5, 3; 1, 1; 3, 5; 1, 3; -1, 7; -1, -1; 7, -1, from 0.5, 0.5.
    // 0: wall 5 (x = 2, y 1 to 1.4): ray 3, 1 meets it at its end 2, 1; ray 5, 3 at 2, 1.4: 0.4 * 1.5 / 2 = 3/10.
    // 1: wall 5 from 1.4 to 2: 0.6 * 1.5 / 2 = 9/20.
    // 2: wall 4 (y = 2, x 1.4 to 2): 9/20. 3: wall 4 from 1 to 1.4: 3/10.
    // 4: side 2 (y = 4) from ray 1, 3 (3.5 / 3 right) to ray -1, 7 (0.5 left): (7/6 + 1/2) * 3.5 / 2 = 35/12.
    // 5: side 3 (4 * 0.5 / 2), 6: side 0, 7: side 1 (x = 4) from -0.5 to 3.5 / 3: 35/12.
    dueSectors("19", x, 0, new int[][] {{5, 3, 10}, {5, 9, 20}, {4, 9, 20}, {4, 3, 10}, {2, 35, 12}, {3, 1, 1}, {0, 1, 1},
      {1, 35, 12}});
    due("20 walls(0)", x.walls(0), 63);
    // Events 1, 1; 1, 3; -1, 7; -1, 3; -1, -1; 7, -1; wall 4 ends at 1, 2: beside it side 2 is met.
    dueSectors("19 a wall's end", told("b4 4;r0 2 1;l0 0;"), 0, new int[][] {{2, 49, 12}, {4, 15, 28}, {4, 3, 14}, {3, 1, 2},
      {0, 1, 1}, {1, 7, 1}});
    LampPlans y = told("b9 9;l0 0;");
    // 9 * 8.5 / 2 twice, 9 * 0.5 / 2 twice.
    dueSectors("19 of 9, 9", y, 0, new int[][] {{2, 153, 4}, {3, 9, 4}, {0, 9, 4}, {1, 153, 4}});
  }

  private static void fewest() {
    due("21 no lamps", new LampPlans().fewest(), 0);
    due("21 one", told("l3 3;").fewest(), 1);
    due("21 any of three will do", told("l3 3;l0 0;l1 1;").fewest(), 1);
    LampPlans x = told("b4 4;u2 0 4;l0 0;l1 3;l3 3;l3 0;l2 1;");
    due("21 one of each room", x.fewest(), 5);
    x.switches(0);
    x.switches(2);
    due("21 off ones count", x.fewest(), 5);
    x.takes(2);
    due("21 another of that room", x.fewest(), 5);
    // A door in the middle: lamps 0 and 1, and 1 and 2, light all six.
    LampPlans y = told("b3 2;r0 1 1;r2 1 1;l0 0;l1 1;l1 0;");
    due("21 lights(0)", y.lights(0), 4);
    due("21 lights(1)", y.lights(1), 4);
    due("21 lights(2)", y.lights(2), 4);
    due("21 two are needed, the least of two such sets", y.fewest(), 3);
    due("21 two, though three are above", told("b4 4;u2 0 2;l0 0;l3 0;l1 3;l2 3;l0 3;").fewest(), 3);
    due("21 one later lamp rather than two earlier", told("b2 4;u1 0 1;l0 0;l1 0;l0 3;").fewest(), 4);
    due("21 eight rooms", told("b8 2;u1 0 2;u2 0 2;u3 0 2;u4 0 2;u5 0 2;u6 0 2;u7 0 2;"
        + "l0 0;l1 0;l2 0;l3 0;l4 0;l5 0;l6 0;l7 0;").fewest(), 255);
  }

  private static void dueBest(String when, LampPlans x, int... want) {
    for (int what = 0; what < 3; what++) due(when + ": best(" + what + ")", x.best(what), want[what]);
  }

  private static void best() {
    LampPlans x = new LampPlans();
    dueBest("22 no lamps", x, 0, 0, 36);
    for (int what : new int[] {-1, 3, LOW, HIGH}) due("22 best(" + what + ")", x.best(what), BAD);
    x.puts(0, 0);
    dueBest("22 all is lit", x, 1, 0, 0);
    x.switches(0);
    dueBest("22 the lamp is off", x, 1, 0, 36);
    LampPlans y = told("b4 4;u1 0 4;l0 0;");
    dueBest("22 the other room", y, 1, 0, 12);
    y.switches(0);
    dueBest("22 the larger room", y, 1, 0, 12);
    y.puts(3, 3);
    dueBest("22 the smaller room, not where a lamp is", y, 0, 1, 4);
    LampPlans z = told("b2 2;l0 0;l1 0;l0 1;");
    dueBest("22 one spot", z, 1, 1, 0);
    z.puts(1, 1);
    dueBest("22 none", z, NONE, NONE, NONE);
    due("22 none, wrong", z.best(3), BAD);
    z.switches(0);
    z.switches(1);
    dueBest("22 none though they are off", z, NONE, NONE, NONE);
    // Rooms in the upper half: the lowest y, then the lowest x.
    dueBest("22 lowest y, then x", told("b4 4;r0 2 4;l0 0;"), 0, 2, 8);
    dueBest("22 lowest y ahead of x", told("b4 4;u2 0 4;r2 2 2;r0 2 2;"), 0, 0, 4);
    dueBest("22 with eight lamps", told("b9 2;u8 0 2;l0 0;l1 0;l2 0;l3 0;l4 0;l5 0;l6 0;l7 0;"), 8, 0, 2);
  }

  private static void gainAndWorst() {
    LampPlans x = told("b4 4;u1 0 4;u2 0 4;r2 2 2;l0 0;");
    due("23 gain(4)", x.gain(4), 4);
    due("23 gain(5)", x.gain(5), 0);
    due("23 gain(6)", x.gain(6), 0);
    for (int w : new int[] {-1, 0, 1, 2, 3, 7, LOW, HIGH}) due("23 gain(" + w + ")", x.gain(w), BAD);
    due("24 worst()", x.worst(), 4);
    x.breaks(4);
    // Now 4 is the wall at x = 2; behind it the wall at y = 2 goes to the right: 0.5, 0.5 sees 2, 0 and 3, 0 below it,
    // 2, 1 and 3, 1; above it what is not behind: 2, 2 is met at x = 2 at y 1.9, then y = 2 from x 2.
    due("23 gain(5)", x.gain(5), 0);
    due("24 worst()", x.worst(), 4);
    due("23 all()", x.all(), 8);
    int gain = x.gain(4);
    due("23 nothing is changed", x.all(), 8);
    due("23 nothing is to be undone", x.count(6), 1);
    x.breaks(4);
    due("23 gain is what is lit more", x.all() - 8, gain);
    x.undo();
    x.switches(0);
    due("23 nothing is on", x.gain(4), 0);
    due("24 several", x.worst(), 4);
    due("24 only sides", told("l0 0;").worst(), NONE);
    due("24 no lamps", told("r1 1 1;").worst(), 4);
    due("24 the last", told("b4 4;r0 0 4;u2 0 4;l0 0;").worst(), 5);
    due("24 two at one place", told("b4 4;u2 0 4;u2 0 4;l0 0;").worst(), 4);
    due("23 two at one place", told("b4 4;u2 0 4;u2 0 4;l0 0;").gain(4), 0);
  }

  private static void sees() {
    LampPlans x = told("b5 3;l0 0;");
    int[][] wrongOnes = {{-1, 0, 0}, {5, 0, 0}, {0, -1, 0}, {0, 3, 0}, {0, 0, -1}, {0, 0, 2}, {LOW, 0, 0}, {0, HIGH, 0},
      {0, 0, HIGH}};
    for (int[] w : wrongOnes) due("25 sees wrong", x.sees(w[0], w[1], w[2]), BAD);
    due("25 count(4)", x.count(4), 0);
    for (int i = 1; i <= 6; i++) due("25 sees", x.sees(4, 2, i % 2), i);
    due("25 a 7th", x.sees(0, 0, 0), FULL);
    due("25 a wrong 7th", x.sees(0, 0, 2), BAD);
    due("25 count(4)", x.count(4), 6);
    due("26 forget()", x.forget(), 6);
    due("26 forget()", x.forget(), 0);
    due("26 count(4)", x.count(4), 0);
    due("26 all lamps that are on", x.unseen(), 1);
    due("25 sees", x.sees(0, 0, 0), 1);
  }

  private static void unseen() {
    LampPlans x = told("b6 2;u2 0 2;u4 0 2;l0 0;l2 0;l4 0;l5 1;");
    due("27 nothing seen", x.unseen(), 15);
    x.sees(1, 1, 1);
    due("27 lit without any but 0", x.unseen(), 14);
    x.sees(3, 0, 0);
    due("27 dark without 1", x.unseen(), 2);
    x.sees(5, 0, 1);
    due("27 lit without either", x.unseen(), 2);
    x.sees(5, 0, 0);
    due("27 both", x.unseen(), 0);
    x.forget();
    x.sees(5, 0, 0);
    due("27 dark without one of two", x.unseen(), 0);
    x.switches(2);
    due("27 dark without the other", x.unseen(), 8);
    x.switches(3);
    due("27 dark without any that is on", x.unseen(), 3);
    x.switches(0);
    x.switches(1);
    due("27 none is on", x.unseen(), 0);
    x.switches(0);
    x.forget();
    x.sees(0, 0, 0);
    due("27 the only one", x.unseen(), 1);
    x.takes(1);
    x.breaks(4);
    due("27 seen stays", x.unseen(), 1);
    x.switches(1);
    due("27 another that is behind a wall", x.unseen(), 1);
    x.breaks(4);
    due("27 seen is as all is now", x.unseen(), 0);
    LampPlans y = told("b2 2;r0 1 2;l0 0;l0 1;");
    y.sees(1, 1, 0);
    due("27 above the wall", y.unseen(), 2);
    y.sees(1, 0, 1);
    due("27 and below it", y.unseen(), 2);
    y.sees(0, 0, 0);
    due("27 dark on both sides", y.unseen(), 0);
  }

  private static void keepAndBack() {
    LampPlans x = told("b5 5;r1 1 1;u2 2 2;l0 0;l1 1;");
    for (int image : new int[] {-1, 2, LOW, HIGH}) {
      due("28 keep(" + image + ")", x.keep(image), BAD);
      due("29 back(" + image + ")", x.back(image), BAD);
    }
    due("29 back(0)", x.back(0), STATE);
    x.switches(0);
    due("28 keep(0)", x.keep(0), 2);
    due("28 nothing is changed", x.count(6), 1);
    due("29 back(1)", x.back(1), STATE);
    due("29 a refused one changes nothing", x.count(6), 1);
    x.takes(1);
    x.breaks(4);
    x.switches(0);
    x.puts(4, 4);
    x.puts(3, 3);
    x.builds(0, 4, 5, 0);
    x.sees(2, 2, 1);
    x.type(98);
    due("28 keep(1)", x.keep(1), 3);
    due("29 back(0)", x.back(0), 2);
    dueCounts("29", x, 5, 5, 6, 2, 1, 1, 0);
    dueLamp("29", x, 0, 0, 0, 0);
    dueLamp("29", x, 1, 1, 1, 1);
    dueWall("29", x, 4, 1, 1, 1, 0);
    dueWall("29", x, 5, 2, 2, 2, 1);
    due("29 undo()", x.undo(), STATE);
    x.takes(0);
    due("29 back(1)", x.back(1), 3);
    dueLamp("29", x, 0, 0, 0, 1);
    dueLamp("29", x, 1, 4, 4, 1);
    dueWall("29", x, 4, 2, 2, 2, 1);
    dueWall("29", x, 5, 0, 4, 5, 0);
    due("29 undo()", x.undo(), STATE);
    x.takes(0);
    due("29 back(0), again", x.back(0), 2);
    dueLamp("29", x, 0, 0, 0, 0);
    x.takes(0);
    x.takes(0);
    due("28 keep(0), anew", x.keep(0), 0);
    x.undo();
    due("29 back(0)", x.back(0), 0);
  }

  private static void count() {
    LampPlans x = told("b7 3;r0 1 2;l0 0;l1 1;");
    x.sees(0, 0, 1);
    x.sees(0, 0, 1);
    x.sees(0, 0, 1);
    types(x, "abcd");
    x.switches(0);
    x.switches(0);
    x.switches(0);
    x.puts(6, 2);
    x.builds(1, 1, 1, 1);
    dueCounts("30", x, 7, 3, 6, 3, 3, 4, 5);
    for (int what : new int[] {-1, 7, LOW, HIGH}) due("30 count(" + what + ")", x.count(what), BAD);
  }
}
