import java.util.ArrayDeque;
import java.util.Deque;

// Boundary cases of what is done: promises 7 to 12, each sentence of the document with a test of its own.
public final class BoundariesDone extends Due {
  public static void main(String[] args) {
    run(BoundariesDone.class, 7, 12, args);
  }

  private static LampPlans eightLamps() {
    return told("b6 3;u2 0 3;" + EIGHT_LAMPS);
  }

  private static LampPlans fourteenWalls() {
    return told("b6 3;l5 2;" + TEN_WALLS);
  }

  // ---- 7: puts

  static void p07_spotsAtThePlansCorners() {
    LampPlans x = told("b5 3;");
    due("puts(0, 0)", x.puts(0, 0), 1);
    due("puts(4, 0)", x.puts(4, 0), 2);
    due("puts(0, 2)", x.puts(0, 2), 3);
    due("puts(4, 2)", x.puts(4, 2), 4);
    dueLamp(x, 3, 4, 2, 1);
  }

  static void p07_beyondThePlanIsBad() {
    // busy() is 5, 4: a spot's x is 4 at most, its y 3.
    int[][] spots = {{-1, 0}, {0, -1}, {5, 0}, {0, 4}, {4, 4}, {5, 3}, {LOW, 0}, {0, LOW}, {HIGH, 0}, {0, HIGH}};
    for (int[] s : spots) {
      changesNothing("puts(" + s[0] + ", " + s[1] + ")", Due::busy, x -> x.puts(s[0], s[1]), BAD);
    }
  }

  static void p07_stateWhereOneIs() {
    changesNothing("puts(2, 2), at one that is on", Due::busy, x -> x.puts(2, 2), STATE);
    changesNothing("puts(4, 3), at one that is off", Due::busy, x -> x.puts(4, 3), STATE);
  }

  static void p07_whereOneWasTaken() {
    LampPlans x = told("l1 1;l2 2;");
    x.takes(0);
    due("puts(1, 1)", x.puts(1, 1), 2);
    dueLamp(x, 1, 1, 1, 1);
  }

  static void p07_aLampPutIsOn() {
    LampPlans x = told("l1 1;");
    x.switches(0);
    x.takes(0);
    due("puts(1, 1)", x.puts(1, 1), 1);
    due("lamp(0, 2)", x.lamp(0, 2), 1);
  }

  static void p07_the8thIsPut() {
    LampPlans x = told("l0 0;l1 0;l2 0;l3 0;l4 0;l5 0;l0 1;");
    due("puts(5, 5)", x.puts(5, 5), 8);
    dueLamp(x, 7, 5, 5, 1);
    due("puts(4, 4)", x.puts(4, 4), FULL);
  }

  static void p07_fullAt8() {
    changesNothing("puts(2, 1)", BoundariesDone::eightLamps, x -> x.puts(2, 1), FULL);
    LampPlans x = new LampPlans();
    for (int i = 1; i <= 8; i++) due("puts", x.puts(i % 6, i / 6), i);
    due("puts(5, 5)", x.puts(5, 5), FULL);
    due("count(3)", x.count(3), 8);
  }

  static void p07_badAheadOfFull() {
    changesNothing("puts(6, 0)", BoundariesDone::eightLamps, x -> x.puts(6, 0), BAD);
    changesNothing("puts(0, 3)", BoundariesDone::eightLamps, x -> x.puts(0, 3), BAD);
  }

  static void p07_stateAheadOfFull() {
    changesNothing("puts(1, 1)", BoundariesDone::eightLamps, x -> x.puts(1, 1), STATE);
  }

  static void p07_roomAgainBehindTakes() {
    LampPlans x = eightLamps();
    x.takes(3);
    due("puts(5, 2)", x.puts(5, 2), 8);
    dueLamp(x, 7, 5, 2, 1);
    due("puts(4, 2)", x.puts(4, 2), FULL);
  }

  static void p07_eachSpotOfTheLeastPlan() {
    LampPlans x = told("b2 2;");
    for (int i = 0; i < 4; i++) due("puts", x.puts(i % 2, i / 2), i + 1);
    for (int i = 0; i < 4; i++) due("puts, again", x.puts(i % 2, i / 2), STATE);
  }

  // ---- 8: takes

  static void p08_noSuchLampIsBad() {
    for (int l : new int[] {-1, 3, 7, 8, LOW, HIGH, 1 << 30}) {
      changesNothing("takes(" + l + ")", Due::busy, x -> x.takes(l), BAD);
    }
  }

  static void p08_noLampAtAllIsBad() {
    changesNothing("takes(0)", () -> told("b3 3;u1 1 1;"), x -> x.takes(0), BAD);
  }

  static void p08_thoseBehindAre1Lower() {
    LampPlans x = told("l0 0;l1 1;l2 2;l3 3;");
    x.switches(2);
    due("takes(1)", x.takes(1), 3);
    dueLamp(x, 0, 0, 0, 1);
    dueLamp(x, 1, 2, 2, 0);
    dueLamp(x, 2, 3, 3, 1);
    due("lamp(3, 0)", x.lamp(3, 0), BAD);
  }

  static void p08_theFirst() {
    LampPlans x = told("l0 0;l1 1;l2 2;");
    due("takes(0)", x.takes(0), 2);
    dueLamp(x, 0, 1, 1, 1);
    dueLamp(x, 1, 2, 2, 1);
  }

  static void p08_theLast() {
    LampPlans x = told("l0 0;l1 1;l2 2;");
    due("takes(2)", x.takes(2), 2);
    dueLamp(x, 0, 0, 0, 1);
    dueLamp(x, 1, 1, 1, 1);
    due("takes(2), again", x.takes(2), BAD);
  }

  static void p08_theOnlyOne() {
    LampPlans x = told("l3 3;");
    due("takes(0)", x.takes(0), 0);
    due("all()", x.all(), 0);
    due("takes(0), again", x.takes(0), BAD);
  }

  static void p08_of8() {
    LampPlans x = eightLamps();
    due("takes(0)", x.takes(0), 7);
    dueLamp(x, 0, 1, 0, 1);
    dueLamp(x, 6, 1, 1, 1);
    due("lamp(7, 0)", x.lamp(7, 0), BAD);
    LampPlans y = eightLamps();
    due("takes(7)", y.takes(7), 7);
    dueLamp(y, 6, 0, 1, 1);
  }

  static void p08_oneThatIsOff() {
    LampPlans x = busy();
    due("takes(0)", x.takes(0), 2);
    dueLamp(x, 0, 2, 2, 1);
  }

  // ---- 9: switches

  static void p09_noSuchLampIsBad() {
    for (int l : new int[] {-1, 3, 7, 8, LOW, HIGH, 1 << 30}) {
      changesNothing("switches(" + l + ")", Due::busy, x -> x.switches(l), BAD);
    }
  }

  static void p09_noLampAtAllIsBad() {
    changesNothing("switches(0)", () -> told("b3 3;u1 1 1;"), x -> x.switches(0), BAD);
  }

  static void p09_onAndOff() {
    LampPlans x = told("l0 0;");
    due("switches(0)", x.switches(0), 0);
    due("lamp(0, 2)", x.lamp(0, 2), 0);
    due("switches(0)", x.switches(0), 1);
    due("lamp(0, 2)", x.lamp(0, 2), 1);
    due("count(6)", x.count(6), 2);
  }

  static void p09_theOthersStay() {
    LampPlans x = eightLamps();
    due("switches(7)", x.switches(7), 0);
    for (int l = 0; l < 7; l++) due("lamp(" + l + ", 2)", x.lamp(l, 2), 1);
    due("lamp(7, 2)", x.lamp(7, 2), 0);
    due("switches(0)", x.switches(0), 0);
    due("lamp(1, 2)", x.lamp(1, 2), 1);
    due("lamp(7, 0)", x.lamp(7, 0), 1);
  }

  // ---- 10: builds

  static void p10_theLeastLengthIs1() {
    LampPlans x = told("b5 3;");
    due("builds(0, 0, 1, 0)", x.builds(0, 0, 1, 0), 5);
    due("builds(0, 0, 1, 1)", x.builds(0, 0, 1, 1), 6);
    for (int length : new int[] {0, -1, LOW}) {
      changesNothing("builds(1, 1, " + length + ", 0)", Due::busy, y -> y.builds(1, 1, length, 0), BAD);
      changesNothing("builds(1, 1, " + length + ", 1)", Due::busy, y -> y.builds(1, 1, length, 1), BAD);
    }
  }

  static void p10_fromSideToSide() {
    LampPlans x = told("b5 3;");
    due("builds(0, 1, 5, 0)", x.builds(0, 1, 5, 0), 5);
    dueWall(x, 4, 0, 1, 5, 0);
    due("builds(1, 0, 3, 1)", x.builds(1, 0, 3, 1), 6);
    dueWall(x, 5, 1, 0, 3, 1);
  }

  static void p10_upToTheSide() {
    LampPlans x = told("b5 3;");
    due("builds(4, 2, 1, 0)", x.builds(4, 2, 1, 0), 5);
    due("builds(4, 2, 1, 1)", x.builds(4, 2, 1, 1), 6);
  }

  static void p10_uponTheSides() {
    LampPlans x = told("b5 3;");
    due("builds(0, 0, 5, 0)", x.builds(0, 0, 5, 0), 5);
    due("builds(5, 0, 3, 1)", x.builds(5, 0, 3, 1), 6);
    due("builds(0, 3, 5, 0)", x.builds(0, 3, 5, 0), 7);
    due("builds(0, 0, 3, 1)", x.builds(0, 0, 3, 1), 8);
  }

  static void p10_endsBeyondThePlanIsBad() {
    // busy() is 5, 4.
    int[][] walls = {{0, 1, 6, 0}, {4, 1, 2, 0}, {1, 0, 5, 1}, {1, 3, 2, 1}, {0, 0, HIGH, 0}, {0, 0, HIGH, 1}};
    dueBad(walls);
  }

  static void p10_beginsBeyondThePlanIsBad() {
    int[][] walls = {{-1, 1, 1, 0}, {1, -1, 1, 1}, {-1, 1, 1, 1}, {1, -1, 1, 0}, {0, 5, 1, 0}, {6, 0, 1, 1},
      {6, 0, 1, 0}, {0, 5, 1, 1}, {LOW, 0, 1, 1}, {0, LOW, 1, 0}, {HIGH, 0, 1, 1}, {0, HIGH, 1, 0}};
    dueBad(walls);
  }

  static void p10_noWallThatWayIsBad() {
    dueBad(new int[][] {{5, 0, 1, 0}, {0, 4, 1, 1}, {5, 4, 1, 0}, {5, 4, 1, 1}});
  }

  static void p10_aSumThatWrapsAroundIsBad() {
    dueBad(new int[][] {{1, 1, HIGH, 0}, {1, 1, HIGH, 1}, {HIGH, 0, HIGH, 0}, {0, HIGH, HIGH, 1}, {LOW, 1, HIGH, 0},
      {1, LOW, HIGH, 1}, {-1, 1, 2, 0}, {1, -1, 2, 1}});
  }

  static void p10_neitherRightNorUpIsBad() {
    dueBad(new int[][] {{1, 1, 1, -1}, {1, 1, 1, 2}, {1, 1, 1, LOW}, {1, 1, 1, HIGH}});
  }

  private static void dueBad(int[][] walls) {
    for (int[] w : walls) {
      String call = "builds(" + w[0] + ", " + w[1] + ", " + w[2] + ", " + w[3] + ")";
      changesNothing(call, Due::busy, x -> x.builds(w[0], w[1], w[2], w[3]), BAD);
    }
  }

  static void p10_the14thIsBuilt() {
    LampPlans x = told("r0 1 1;r0 1 1;r0 1 1;r0 1 1;r0 1 1;r0 1 1;r0 1 1;r0 1 1;r0 1 1;");
    due("builds(6, 5, 1, 1)", x.builds(6, 5, 1, 1), 14);
    dueWall(x, 13, 6, 5, 1, 1);
    due("builds(6, 5, 1, 1)", x.builds(6, 5, 1, 1), FULL);
  }

  static void p10_fullAt14() {
    changesNothing("builds(1, 1, 1, 0)", BoundariesDone::fourteenWalls, x -> x.builds(1, 1, 1, 0), FULL);
    changesNothing("builds(1, 1, 1, 1)", BoundariesDone::fourteenWalls, x -> x.builds(1, 1, 1, 1), FULL);
    LampPlans x = new LampPlans();
    for (int i = 5; i <= 14; i++) due("builds", x.builds(1, 1, 1, i % 2), i);
    due("builds, once more", x.builds(1, 1, 1, 1), FULL);
    due("count(2)", x.count(2), 14);
  }

  static void p10_badAheadOfFull() {
    changesNothing("builds(0, 0, 7, 0)", BoundariesDone::fourteenWalls, x -> x.builds(0, 0, 7, 0), BAD);
    changesNothing("builds(0, 0, 1, 2)", BoundariesDone::fourteenWalls, x -> x.builds(0, 0, 1, 2), BAD);
  }

  static void p10_roomAgainBehindBreaks() {
    LampPlans x = fourteenWalls();
    x.breaks(4);
    due("builds(5, 0, 3, 1)", x.builds(5, 0, 3, 1), 14);
    dueWall(x, 13, 5, 0, 3, 1);
  }

  static void p10_wallsMayBeAtOnePlace() {
    LampPlans x = told("r1 1 2;");
    due("builds(1, 1, 2, 0)", x.builds(1, 1, 2, 0), 6);
    dueWall(x, 5, 1, 1, 2, 0);
  }

  // ---- 11: breaks

  static void p11_sidesAreBad() {
    for (int w = 0; w < 4; w++) {
      int side = w;
      changesNothing("breaks(" + w + ")", Due::busy, x -> x.breaks(side), BAD);
    }
  }

  static void p11_noSuchWallIsBad() {
    for (int w : new int[] {-1, 7, 13, 14, LOW, HIGH, 1 << 30}) {
      changesNothing("breaks(" + w + ")", Due::busy, x -> x.breaks(w), BAD);
    }
  }

  static void p11_onlySidesIsBad() {
    changesNothing("breaks(4)", () -> told("b3 3;l1 1;"), x -> x.breaks(4), BAD);
  }

  static void p11_thoseBehindAre1Lower() {
    LampPlans x = told("r0 1 1;r1 2 2;u3 3 3;r4 4 1;");
    due("breaks(5)", x.breaks(5), 7);
    dueWall(x, 4, 0, 1, 1, 0);
    dueWall(x, 5, 3, 3, 3, 1);
    dueWall(x, 6, 4, 4, 1, 0);
    due("wall(7, 0)", x.wall(7, 0), BAD);
  }

  static void p11_theFirstBehindTheSides() {
    LampPlans x = told("b4 3;r0 1 1;u1 2 1;");
    due("breaks(4)", x.breaks(4), 5);
    dueWall(x, 3, 0, 0, 3, 1);
    dueWall(x, 4, 1, 2, 1, 1);
  }

  static void p11_theLast() {
    LampPlans x = told("r0 1 1;u1 2 1;");
    due("breaks(5)", x.breaks(5), 5);
    dueWall(x, 4, 0, 1, 1, 0);
    due("breaks(5), again", x.breaks(5), BAD);
  }

  static void p11_theOnlyOne() {
    LampPlans x = told("u1 2 1;");
    due("breaks(4)", x.breaks(4), 4);
    due("breaks(4), again", x.breaks(4), BAD);
    due("worst()", x.worst(), NONE);
  }

  static void p11_of14() {
    LampPlans x = told("u1 2 1;r0 1 1;r0 1 1;r0 1 1;r0 1 1;r0 1 1;r0 1 1;r0 1 1;r0 1 1;r5 6 1;");
    due("breaks(4)", x.breaks(4), 13);
    dueWall(x, 4, 0, 1, 1, 0);
    dueWall(x, 12, 5, 6, 1, 0);
    due("wall(13, 0)", x.wall(13, 0), BAD);
    due("breaks(12)", x.breaks(12), 12);
    dueWall(x, 11, 0, 1, 1, 0);
  }

  // ---- 12: undo

  static void p12_stateAtFirst() {
    changesNothing("undo()", LampPlans::new, LampPlans::undo, STATE);
    changesNothing("undo()", () -> told("b3 3;u1 1 1;l2 2;"), LampPlans::undo, STATE);
  }

  static void p12_stateBehindTheLast() {
    LampPlans x = told("l0 0;");
    x.switches(0);
    due("undo()", x.undo(), 0);
    due("undo()", x.undo(), STATE);
    dueLamp(x, 0, 0, 0, 1);
  }

  static void p12_putsUndone() {
    changesNothing("undo()", Due::busy, x -> {
      x.puts(0, 3);
      return x.undo();
    }, 4);
  }

  static void p12_takesUndone() {
    for (int l = 0; l < 3; l++) {
      int lamp = l;
      changesNothing("undo() of takes(" + l + ")", Due::busy, x -> {
        x.takes(lamp);
        return x.undo();
      }, 4);
    }
  }

  static void p12_switchesUndone() {
    for (int l = 0; l < 3; l++) {
      int lamp = l;
      changesNothing("undo() of switches(" + l + ")", Due::busy, x -> {
        x.switches(lamp);
        return x.undo();
      }, 4);
    }
  }

  static void p12_buildsUndone() {
    changesNothing("undo()", Due::busy, x -> {
      x.builds(0, 0, 5, 0);
      return x.undo();
    }, 4);
  }

  static void p12_breaksUndone() {
    for (int w = 4; w < 7; w++) {
      int wall = w;
      changesNothing("undo() of breaks(" + w + ")", Due::busy, x -> {
        x.breaks(wall);
        return x.undo();
      }, 4);
    }
  }

  static void p12_theOnlyLampComesBack() {
    LampPlans x = told("l4 2;");
    x.takes(0);
    due("undo()", x.undo(), 0);
    dueLamp(x, 0, 4, 2, 1);
  }

  static void p12_theOnlyWallComesBack() {
    LampPlans x = told("u4 2 3;");
    x.breaks(4);
    due("undo()", x.undo(), 0);
    dueWall(x, 4, 4, 2, 3, 1);
  }

  static void p12_the8thLampAndThe14thWall() {
    LampPlans x = eightLamps();
    x.takes(7);
    due("undo()", x.undo(), 0);
    dueLamp(x, 7, 1, 1, 1);
    due("puts(5, 2)", x.puts(5, 2), FULL);
    LampPlans y = fourteenWalls();
    y.breaks(13);
    due("undo()", y.undo(), 0);
    dueWall(y, 13, 0, 1, 1, 0);
    due("builds(1, 1, 1, 1)", y.builds(1, 1, 1, 1), FULL);
  }

  static void p12_theLatestFirst() {
    LampPlans x = told("l0 0;l1 1;");
    x.switches(0);
    x.takes(0);
    due("undo()", x.undo(), 1);
    dueLamp(x, 0, 0, 0, 0);
    due("undo()", x.undo(), 0);
    dueLamp(x, 0, 0, 0, 1);
  }

  static void p12_theRefusedAreNotKnown() {
    LampPlans x = eightLamps();
    x.switches(0);
    x.puts(-1, 0);
    x.puts(0, 0);
    x.puts(5, 2);
    x.takes(8);
    x.switches(8);
    x.builds(0, 0, 7, 0);
    x.breaks(3);
    due("count(6)", x.count(6), 1);
    due("undo()", x.undo(), 0);
    due("lamp(0, 2)", x.lamp(0, 2), 1);
    LampPlans y = fourteenWalls();
    y.builds(1, 1, 1, 1);
    due("count(6)", y.count(6), 0);
    due("undo()", y.undo(), STATE);
  }

  static void p12_tenAreKnown() {
    LampPlans x = told("l0 0;");
    for (int i = 1; i <= 10; i++) {
      x.builds(1, 1, 1, 0);
      due("count(6)", x.count(6), i);
    }
    for (int left = 9; left >= 0; left--) {
      due("undo()", x.undo(), left);
      due("count(2)", x.count(2), 4 + left);
    }
    due("undo()", x.undo(), STATE);
    due("count(2)", x.count(2), 4);
  }

  static void p12_olderOnesAreLost() {
    LampPlans x = told("l0 0;");
    x.switches(0);
    for (int i = 1; i <= 10; i++) x.builds(1, 1, 1, 0);
    due("count(6)", x.count(6), 10);
    for (int left = 9; left >= 0; left--) due("undo()", x.undo(), left);
    due("undo()", x.undo(), STATE);
    due("count(2)", x.count(2), 4);
    due("lamp(0, 2), which was switched ahead of the ten", x.lamp(0, 2), 0);
  }

  static void p12_manyMoreThanTen() {
    LampPlans x = told("l0 0;l1 1;l2 2;");
    for (int i = 0; i < 35; i++) x.switches(i % 3);
    due("count(6)", x.count(6), 10);
    for (int left = 9; left >= 0; left--) due("undo()", x.undo(), left);
    due("undo()", x.undo(), STATE);
    // Of the first 25 switches lamp 0 has had 9, lamps 1 and 2 have had 8.
    due("lamp(0, 2)", x.lamp(0, 2), 0);
    due("lamp(1, 2)", x.lamp(1, 2), 1);
    due("lamp(2, 2)", x.lamp(2, 2), 1);
  }

  static void p12_doneAndUndoneByTurns() {
    LampPlans x = new LampPlans();
    Deque<Integer> known = new ArrayDeque<>();
    int walls = 4, built = 0;
    for (char step : "dddddduuudddddddduuuuudddddduuuddddduuuuuuuuuuuuuddduuuu".toCharArray()) {
      boolean breaking = step == 'd' && walls > 4 && built % 3 == 2;
      if (step == 'u') {
        int left = known.isEmpty() ? STATE : known.size() - 1;
        walls = known.isEmpty() ? walls : known.removeLast();
        due("undo()", x.undo(), left);
      } else {
        known.addLast(walls);
        if (known.size() > 10) known.removeFirst();
        walls += breaking ? -1 : 1;
        built++;
        due("done", breaking ? x.breaks(4) : x.builds(1, 1, 1, 0), walls);
      }
      due("count(2)", x.count(2), walls);
      due("count(6)", x.count(6), known.size());
    }
  }

  static void p12_whatIsDoneBehindUndoIsKnownAnew() {
    LampPlans x = told("l0 0;");
    x.puts(1, 1);
    x.puts(2, 2);
    x.undo();
    due("puts(3, 3)", x.puts(3, 3), 3);
    due("undo()", x.undo(), 1);
    due("undo()", x.undo(), 0);
    due("undo()", x.undo(), STATE);
    due("count(3)", x.count(3), 1);
  }

  static void p12_noneBehindBack() {
    LampPlans x = busy();
    x.back(0);
    due("count(6)", x.count(6), 0);
    due("undo()", x.undo(), STATE);
  }

  static void p12_noneBehindPlan() {
    LampPlans x = busy();
    due("plan()", x.plan(), 1);
    due("undo()", x.undo(), STATE);
  }

  static void p12_nothingElseIsUndone() {
    LampPlans x = told("l0 0;l5 5;");
    x.puts(1, 1);
    x.sees(0, 0, 1);
    x.keep(0);
    x.type(32);
    x.forget();
    x.sees(1, 1, 0);
    x.sees(1, 1, 0);
    due("undo()", x.undo(), 0);
    dueCounts(x, 6, 6, 4, 2, 2, 1, 0);
    due("back(0)", x.back(0), 3);
  }
}
