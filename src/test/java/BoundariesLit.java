// Boundary cases of what is lit and of the ray: promises 13 to 20, each sentence of the document with a test of its own.
public final class BoundariesLit extends Due {
  public static void main(String[] args) {
    run(BoundariesLit.class, 13, 20, args);
  }

  private static final int[] NO_LAMPS = {-1, 3, 7, 8, 31, 32, LOW, HIGH, 1 << 30};

  // ---- 13: lit

  static void p13_itsOwnSpot() {
    LampPlans x = told("b2 2;l0 0;l1 1;");
    due("lit(0, 0, 0)", x.lit(0, 0, 0), 1);
    due("lit(1, 1, 1)", x.lit(1, 1, 1), 1);
    LampPlans closedIn = told("b3 3;r1 1 1;r1 2 1;u1 1 1;u2 1 1;l1 1;");
    due("lit(0, 1, 1), walls all round", closedIn.lit(0, 1, 1), 1);
  }

  static void p13_oneThatIsOffToo() {
    LampPlans x = told("b2 2;r0 1 2;l0 0;");
    x.switches(0);
    due("lit(0, 0, 0)", x.lit(0, 0, 0), 1);
    due("lit(0, 1, 0)", x.lit(0, 1, 0), 1);
    due("lit(0, 1, 1)", x.lit(0, 1, 1), 0);
  }

  static void p13_anEndOfAWallUp() {
    for (int mirror = 0; mirror < 4; mirror++) {
      int wallX = mirror % 2 == 0 ? 2 : 3, wallY = mirror < 2 ? 1 : 3;
      LampPlans x = told("b5 5;u" + wallX + " " + wallY + " 1;l" + mirrored(0, mirror % 2) + " " + mirrored(0, mirror / 2) + ";");
      // From 0.5, 0.5 to 3.5, 1.5 and 3.5, 3.5: at x = 2 they are at y = 1 and y = 2, the wall's ends.
      dueLit(x, mirror, 3, 1, 0);
      dueLit(x, mirror, 3, 3, 0);
      // To 3.5, 2.5: between the ends, at y = 1.5.
      dueLit(x, mirror, 3, 2, 0);
    }
  }

  static void p13_besideAWallUp() {
    for (int mirror = 0; mirror < 4; mirror++) {
      int wallX = mirror % 2 == 0 ? 2 : 3, wallY = mirror < 2 ? 1 : 3;
      LampPlans x = told("b5 5;u" + wallX + " " + wallY + " 1;l" + mirrored(0, mirror % 2) + " " + mirrored(0, mirror / 2) + ";");
      // From 0.5, 0.5 to 4.5, 1.5 and 3.5, 4.5: at x = 2 they are at y = 0.875 and y = 2.5.
      dueLit(x, mirror, 4, 1, 1);
      dueLit(x, mirror, 3, 4, 1);
      dueLit(x, mirror, 1, 4, 1);
    }
  }

  static void p13_anEndOfAWallToTheRight() {
    for (int mirror = 0; mirror < 4; mirror++) {
      int wallX = mirror % 2 == 0 ? 1 : 3, wallY = mirror < 2 ? 2 : 3;
      LampPlans x = told("b5 5;r" + wallX + " " + wallY + " 1;l" + mirrored(0, mirror % 2) + " " + mirrored(0, mirror / 2) + ";");
      dueLit(x, mirror, 1, 3, 0);
      dueLit(x, mirror, 3, 3, 0);
      dueLit(x, mirror, 2, 3, 0);
    }
  }

  static void p13_besideAWallToTheRight() {
    for (int mirror = 0; mirror < 4; mirror++) {
      int wallX = mirror % 2 == 0 ? 1 : 3, wallY = mirror < 2 ? 2 : 3;
      LampPlans x = told("b5 5;r" + wallX + " " + wallY + " 1;l" + mirrored(0, mirror % 2) + " " + mirrored(0, mirror / 2) + ";");
      dueLit(x, mirror, 1, 4, 1);
      dueLit(x, mirror, 4, 3, 1);
      dueLit(x, mirror, 4, 1, 1);
    }
  }

  private static int mirrored(int place, int turned) {
    return turned == 1 ? 4 - place : place;
  }

  private static void dueLit(LampPlans x, int mirror, int spotX, int spotY, int want) {
    int toX = mirrored(spotX, mirror % 2), toY = mirrored(spotY, mirror / 2);
    due("lit(0, " + toX + ", " + toY + "), mirrored " + mirror, x.lit(0, toX, toY), want);
  }

  static void p13_aheadOfAWall() {
    LampPlans x = told("b9 9;u4 0 9;l0 4;");
    due("lit(0, 3, 4)", x.lit(0, 3, 4), 1);
    due("lit(0, 4, 4)", x.lit(0, 4, 4), 0);
    due("lit(0, 3, 0)", x.lit(0, 3, 0), 1);
    due("lit(0, 3, 8)", x.lit(0, 3, 8), 1);
    due("lit(0, 8, 8)", x.lit(0, 8, 8), 0);
  }

  static void p13_behindTheLampAWallStopsNothing() {
    LampPlans x = told("b9 9;u4 0 9;r4 4 5;l4 4;");
    due("lit(0, 8, 4)", x.lit(0, 8, 4), 1);
    due("lit(0, 8, 8)", x.lit(0, 8, 8), 1);
    due("lit(0, 4, 3)", x.lit(0, 4, 3), 0);
    due("lit(0, 3, 4)", x.lit(0, 3, 4), 0);
  }

  static void p13_alongAWall() {
    LampPlans x = told("b5 5;r0 1 5;l0 0;l0 1;");
    due("lit(0, 4, 0)", x.lit(0, 4, 0), 1);
    due("lit(1, 4, 1)", x.lit(1, 4, 1), 1);
  }

  static void p13_sidesStopNothing() {
    LampPlans x = told("b9 9;r0 0 9;u9 0 9;r0 9 9;u0 0 9;l0 0;");
    due("lit(0, 8, 0)", x.lit(0, 8, 0), 1);
    due("lit(0, 0, 8)", x.lit(0, 0, 8), 1);
    due("lit(0, 8, 8)", x.lit(0, 8, 8), 1);
  }

  static void p13_betweenTwoWallsThatTouch() {
    LampPlans x = told("b4 4;r0 2 2;r2 2 2;l1 0;l0 1;");
    // From 1.5, 0.5 to 2.5, 3.5: at y = 2 it is at x = 2, where one ends and one begins.
    due("lit(0, 2, 3)", x.lit(0, 2, 3), 0);
    due("lit(1, 3, 2)", told("b4 4;r0 2 2;u2 2 2;l1 0;l0 1;").lit(1, 3, 2), 0);
  }

  static void p13_aDoorOfOneSquare() {
    LampPlans x = told("b3 2;r0 1 1;r2 1 1;l1 0;");
    due("lit(0, 1, 1)", x.lit(0, 1, 1), 1);
    due("lit(0, 0, 1), by the end 1, 1", x.lit(0, 0, 1), 0);
    due("lit(0, 2, 1), by the end 2, 1", x.lit(0, 2, 1), 0);
  }

  static void p13_noSuchLampIsBad() {
    for (int l : NO_LAMPS) changesNothing("lit(" + l + ", 0, 0)", Due::busy, x -> x.lit(l, 0, 0), BAD);
    due("lit(0, 0, 0), without any", new LampPlans().lit(0, 0, 0), BAD);
  }

  static void p13_beyondThePlanIsBad() {
    LampPlans x = busy();
    due("lit(0, 4, 3)", x.lit(0, 4, 3), 1);
    for (int at : new int[] {-1, 5, LOW, HIGH}) due("lit(0, " + at + ", 0)", x.lit(0, at, 0), BAD);
    for (int at : new int[] {-1, 4, LOW, HIGH}) due("lit(0, 0, " + at + ")", x.lit(0, 0, at), BAD);
  }

  // ---- 14: by

  static void p14_noLamps() {
    due("by(0, 0)", new LampPlans().by(0, 0), 0);
  }

  static void p14_noneThatIsOn() {
    LampPlans x = told("l0 0;l1 1;");
    x.switches(0);
    x.switches(1);
    due("by(0, 0)", x.by(0, 0), 0);
  }

  static void p14_thoseThatAreOnAlone() {
    LampPlans x = told("b2 2;l0 0;l1 0;l0 1;");
    due("by(1, 1)", x.by(1, 1), 7);
    x.switches(1);
    due("by(1, 1)", x.by(1, 1), 5);
    due("by(1, 0), its own spot", x.by(1, 0), 5);
  }

  static void p14_all8() {
    LampPlans x = told(EIGHT_LAMPS);
    due("by(5, 5)", x.by(5, 5), 255);
    x.switches(0);
    due("by(5, 5)", x.by(5, 5), 254);
    x.switches(7);
    due("by(5, 5)", x.by(5, 5), 126);
  }

  static void p14_theEndsOfThePlan() {
    LampPlans x = told("b9 2;l4 0;");
    due("by(8, 1)", x.by(8, 1), 1);
    due("by(0, 0)", x.by(0, 0), 1);
    for (int at : new int[] {-1, 9, LOW, HIGH}) due("by(" + at + ", 0)", x.by(at, 0), BAD);
    for (int at : new int[] {-1, 2, LOW, HIGH}) due("by(0, " + at + ")", x.by(0, at), BAD);
    changesNothing("by(5, 0)", Due::busy, y -> y.by(5, 0), BAD);
  }

  // ---- 15: lights

  static void p15_noSuchLampIsBad() {
    for (int l : NO_LAMPS) changesNothing("lights(" + l + ")", Due::busy, x -> x.lights(l), BAD);
    due("lights(0), without any", new LampPlans().lights(0), BAD);
  }

  static void p15_itsOwnSpotAlone() {
    due("lights(0)", told("b3 3;r1 1 1;r1 2 1;u1 1 1;u2 1 1;l1 1;").lights(0), 1);
    due("lights(0)", told("b2 2;r0 1 2;u1 0 2;l1 1;").lights(0), 1);
  }

  static void p15_eachSpot() {
    due("lights(0)", told("b2 2;l1 1;").lights(0), 4);
    due("lights(0)", told("b9 9;l0 8;").lights(0), 81);
    due("lights(0)", told("b9 2;l4 1;").lights(0), 18);
  }

  static void p15_aDoorOfOneSquare() {
    // Below all three, above the one behind the door alone.
    due("lights(0)", told("b3 2;r0 1 1;r2 1 1;l1 0;").lights(0), 4);
  }

  static void p15_oneThatIsOffToo() {
    LampPlans x = told("b4 4;u2 0 4;l0 0;");
    x.switches(0);
    due("lights(0)", x.lights(0), 8);
  }

  static void p15_the8th() {
    due("lights(7)", told("u2 1 5;" + EIGHT_LAMPS).lights(7), 12);
  }

  // ---- 16: all

  static void p16_noLamps() {
    due("all()", new LampPlans().all(), 0);
  }

  static void p16_noneThatIsOn() {
    LampPlans x = told("l0 0;");
    x.switches(0);
    due("all()", x.all(), 0);
  }

  static void p16_eachSpotOnce() {
    due("all()", told("l0 0;l5 5;l3 3;").all(), 36);
    due("all()", told("b9 9;l0 0;l8 8;").all(), 81);
    due("all()", told("b2 2;l0 0;l1 1;").all(), 4);
  }

  static void p16_thoseThatAreOnAlone() {
    LampPlans x = told("b4 4;u1 0 4;l0 0;l3 3;");
    due("all()", x.all(), 16);
    x.switches(0);
    due("all()", x.all(), 12);
    x.switches(1);
    due("all()", x.all(), 0);
    x.switches(0);
    due("all()", x.all(), 4);
  }

  // ---- 17: events

  static void p17_noSuchLampIsBad() {
    for (int l : NO_LAMPS) changesNothing("events(" + l + ")", Due::busy, x -> x.events(l), BAD);
    due("events(0), without any", new LampPlans().events(0), BAD);
  }

  static void p17_theCornersAlone() {
    due("events(0)", told("b2 2;l0 0;").events(0), 4);
    due("events(0)", told("b9 9;l8 3;").events(0), 4);
  }

  static void p17_eachDirectionOnce() {
    // The ends 1, 1 and 2, 2 and the corner 4, 4 are in one direction from 0.5, 0.5.
    due("events(0)", told("b4 4;r1 1 1;r2 2 1;l0 0;").events(0), 6);
    // Walls at one place have the same ends, walls upon sides the sides' ends.
    due("events(0)", told("b4 4;r1 1 1;r1 1 1;r0 0 4;u4 0 4;l0 0;").events(0), 5);
  }

  static void p17_oppositeDirectionsAreTwo() {
    // From 1.5, 1.5 the ends 1, 1 and 2, 2 are in the directions of corners, too.
    due("events(0)", told("b3 3;r1 1 1;r1 2 1;l1 1;").events(0), 4);
    due("events(0)", told("b3 4;r1 1 1;r1 2 1;l1 1;").events(0), 6);
  }

  static void p17_aPointInCommon() {
    // The walls cross at 3, 2, which is an end of none.
    due("events(0)", told("b5 5;r1 2 3;u3 1 2;l0 0;").events(0), 8);
    // Here they don't.
    due("events(0)", told("b5 5;r1 2 1;u3 1 2;l0 0;").events(0), 6);
    // Two to the right have none in common that counts but their ends.
    due("events(0)", told("b5 5;r0 2 4;r1 2 4;l0 0;").events(0), 8);
  }

  static void p17_oneThatIsOffToo() {
    LampPlans x = told("l0 0;");
    x.switches(0);
    due("events(0)", x.events(0), 4);
  }

  static void p17_ofAnotherLampRightBehind() {
    LampPlans x = told("b4 4;r1 0 1;l0 0;l2 0;");
    dueEvents(x, 0, new int[][] {{1, 1}, {-1, 7}, {-1, -1}, {1, -1}, {3, -1}, {7, -1}});
    dueEvents(x, 1, new int[][] {{3, 7}, {-5, 7}, {-5, -1}, {-3, -1}, {-1, -1}, {3, -1}});
  }

  static void p17_manyWalls() {
    String walls = "r1 1 1;r3 1 1;r5 1 1;r7 1 1;r2 3 1;r4 3 1;r6 3 1;r2 5 1;r4 5 1;r6 5 1;";
    LampPlans x = told("b9 9;" + walls + "l4 0;");
    // 4 corners and 20 ends; from 4.5, 0.5 only 7, 3 is in a direction ahead (5, 1: 1, 1), as 2, 3 is (4, 1: -1, 1).
    due("events(0)", x.events(0), 22);
  }

  // ---- 18: event

  static void p18_noSuchLampIsNo() {
    for (int l : NO_LAMPS) changesNothing("event(" + l + ", 0, 0)", Due::busy, x -> x.event(l, 0, 0), NO);
    due("event(0, 0, 0), without any", new LampPlans().event(0, 0, 0), NO);
  }

  static void p18_notSoManyIsNo() {
    LampPlans x = told("b3 2;l0 0;");
    due("event(0, 3, 0)", x.event(0, 3, 0), 5);
    for (int k : new int[] {-1, 4, LOW, HIGH}) {
      due("event(0, " + k + ", 0)", x.event(0, k, 0), NO);
      due("event(0, " + k + ", 1)", x.event(0, k, 1), NO);
    }
  }

  static void p18_noSuchPartIsNo() {
    LampPlans x = told("b3 2;l0 0;");
    for (int what : new int[] {-1, 2, LOW, HIGH}) {
      due("event(0, 0, " + what + ")", x.event(0, 0, what), NO);
      due("event(0, 9, " + what + ")", x.event(0, 9, what), NO);
    }
  }

  static void p18_belowZeroIsAnAnswer() {
    LampPlans x = told("b2 2;l0 0;");
    dueEvents(x, 0, new int[][] {{1, 1}, {-1, 3}, {-1, -1}, {3, -1}});
  }

  static void p18_beginningAtTheDirection10() {
    // The direction 17, 1 is behind 1, 0 at once, 17, -1 ahead of it.
    LampPlans x = told("b9 9;u9 0 1;l0 0;");
    dueEvents(x, 0, new int[][] {{17, 1}, {1, 1}, {-1, 17}, {-1, -1}, {17, -1}});
  }

  static void p18_aboutTheDirectionMinus10() {
    LampPlans x = told("b9 9;u0 0 1;l8 0;");
    dueEvents(x, 0, new int[][] {{1, 17}, {-1, 1}, {-17, 1}, {-17, -1}, {1, -1}});
  }

  static void p18_aboutTheDirection01() {
    LampPlans x = told("b9 9;r0 9 1;l0 0;");
    dueEvents(x, 0, new int[][] {{1, 1}, {1, 17}, {-1, 17}, {-1, -1}, {17, -1}});
  }

  static void p18_aboutTheDirection0Minus1() {
    LampPlans x = told("b9 9;r0 0 1;l0 8;");
    dueEvents(x, 0, new int[][] {{17, 1}, {-1, 1}, {-1, -17}, {1, -17}, {1, -1}});
  }

  static void p18_withoutACommonDivisor() {
    // In halves from 4.5, 4.5: 9, 9 to a corner, 3, 3 and -3, 3 to a wall's ends, 3, 9 and 5, 9 to another's.
    LampPlans x = told("b9 9;r3 6 3;r6 9 1;l4 4;");
    dueEvents(x, 0, new int[][] {{1, 1}, {5, 9}, {1, 3}, {-1, 1}, {-1, -1}, {1, -1}});
  }

  static void p18_aPointInCommon() {
    LampPlans x = told("b5 5;r1 2 3;u3 1 2;l0 0;");
    dueEvents(x, 0, new int[][] {{5, 1}, {7, 3}, {5, 3}, {1, 1}, {1, 3}, {-1, 9}, {-1, -1}, {9, -1}});
  }

  static void p18_ofTheLampThatIsAsked() {
    LampPlans x = told("b3 2;l0 0;l1 1;");
    due("event(0, 0, 0)", x.event(0, 0, 0), 5);
    due("event(1, 0, 0)", x.event(1, 0, 0), 3);
    due("event(0, 0, 0), again", x.event(0, 0, 0), 5);
    x.builds(3, 0, 1, 1);
    due("event(0, 0, 1), a wall more", x.event(0, 0, 1), 1);
  }

  private static void dueEvents(LampPlans x, int l, int[][] want) {
    due("events(" + l + ")", x.events(l), want.length);
    for (int k = 0; k < want.length; k++) {
      due("event(" + l + ", " + k + ", 0)", x.event(l, k, 0), want[k][0]);
      due("event(" + l + ", " + k + ", 1)", x.event(l, k, 1), want[k][1]);
    }
    due("event(" + l + ", " + want.length + ", 0)", x.event(l, want.length, 0), NO);
  }

  // ---- 19: sector

  static void p19_noSuchLampIsBad() {
    for (int l : NO_LAMPS) changesNothing("sector(" + l + ", 0, 0)", Due::busy, x -> x.sector(l, 0, 0), BAD);
    due("sector(0, 0, 0), without any", new LampPlans().sector(0, 0, 0), BAD);
    due("sector(1, 99, 0)", told("l0 0;").sector(1, 99, 0), BAD);
  }

  static void p19_notSoManyIsNone() {
    LampPlans x = told("b3 2;l0 0;");
    for (int what = 0; what < 3; what++) {
      due("sector(0, 4, " + what + ")", x.sector(0, 4, what), NONE);
      due("sector(0, HIGH, " + what + ")", x.sector(0, HIGH, what), NONE);
    }
    due("sector(0, 3, 0)", x.sector(0, 3, 0), 1);
  }

  static void p19_belowTheFirstIsBad() {
    LampPlans x = told("b3 2;l0 0;");
    for (int what = 0; what < 3; what++) {
      due("sector(0, -1, " + what + ")", x.sector(0, -1, what), BAD);
      due("sector(0, LOW, " + what + ")", x.sector(0, LOW, what), BAD);
    }
  }

  static void p19_noSuchPartIsBad() {
    LampPlans x = told("b3 2;l0 0;");
    for (int what : new int[] {-1, 3, LOW, HIGH}) due("sector(0, 0, " + what + ")", x.sector(0, 0, what), BAD);
  }

  static void p19_badAheadOfNone() {
    LampPlans x = told("b3 2;l0 0;");
    for (int what : new int[] {-1, 3, LOW, HIGH}) due("sector(0, 4, " + what + ")", x.sector(0, 4, what), BAD);
  }

  static void p19_behindTheLastComesTheFirst() {
    // The last one is from 17, -1 to 15, 1: 16/17 of wall 4 (x = 8), 7.5 away.
    // Ahead of it, from 15, -1 to 17, -1, is the rest, 1/17. From 15, 1 on side 1 is met, 119/15 of it, 8.5 away.
    LampPlans x = told("b9 9;u8 0 1;l0 0;");
    dueSectors(x, 0, new int[][] {{1, 2023, 60}, {2, 153, 4}, {3, 9, 4}, {0, 2, 1}, {4, 15, 68}, {4, 60, 17}});
  }

  static void p19_theLowestOfSeveralAtOnePlace() {
    LampPlans x = told("b9 9;u9 0 1;l0 0;");
    dueSectors(x, 0, new int[][] {{1, 34, 1}, {2, 153, 4}, {3, 9, 4}, {0, 9, 4}, {1, 17, 4}});
    // Of walls 4 (3 long) and 5 (1 long, in the middle of 4) it is 4 all along; the other way round 4 in the middle.
    LampPlans y = told("b3 3;r0 1 3;r1 1 1;l1 0;");
    dueSectors(y, 0, new int[][] {{4, 1, 4}, {4, 1, 20}, {4, 3, 20}, {4, 1, 20}, {4, 1, 4}, {3, 3, 4}, {0, 3, 4}, {1, 3, 4}});
    LampPlans z = told("b3 3;r1 1 1;r0 1 3;l1 0;");
    dueSectors(z, 0, new int[][] {{5, 1, 4}, {4, 1, 20}, {4, 3, 20}, {4, 1, 20}, {5, 1, 4}, {3, 3, 4}, {0, 3, 4}, {1, 3, 4}});
  }

  static void p19_theNearestIsMet() {
    LampPlans x = told("b4 4;r0 3 4;r0 2 4;r0 1 4;l0 0;");
    due("walls(0)", x.walls(0), 1 + 2 + 8 + 64);
  }

  static void p19_areaInLeastTerms() {
    // Sides of 2, 2 from 0.5, 0.5: 2 * 1.5 / 2 and 2 * 0.5 / 2.
    dueSectors(told("b2 2;l0 0;"), 0, new int[][] {{2, 3, 2}, {3, 1, 2}, {0, 1, 2}, {1, 3, 2}});
  }

  static void p19_aWholeAreaHas1Below() {
    // 4 * 0.5 / 2 and 4 * 3.5 / 2.
    dueSectors(told("b4 4;l0 0;"), 0, new int[][] {{2, 7, 1}, {3, 1, 1}, {0, 1, 1}, {1, 7, 1}});
  }

  static void p19_areasSumUpToThePlan() {
    String[] texts = {"b9 9;l4 4;", "b2 9;l1 0;", "b9 2;l0 1;", "b7 3;l6 2;"};
    for (String text : texts) {
      LampPlans x = told(text);
      double area = 0;
      for (int k = 0; k < 4; k++) area += (double) x.sector(0, k, 1) / x.sector(0, k, 2);
      due("the sum of areas of '" + text + "'", (int) Math.round(area * 1000), x.count(0) * x.count(1) * 1000);
    }
  }

  static void p19_oneThatIsOffToo() {
    LampPlans x = told("b2 2;l0 0;");
    x.switches(0);
    dueSectors(x, 0, new int[][] {{2, 3, 2}, {3, 1, 2}, {0, 1, 2}, {1, 3, 2}});
  }

  private static void dueSectors(LampPlans x, int l, int[][] want) {
    for (int k = 0; k < want.length; k++) {
      for (int what = 0; what < 3; what++) {
        due("sector(" + l + ", " + k + ", " + what + ")", x.sector(l, k, what), want[k][what]);
      }
    }
    due("sector(" + l + ", " + want.length + ", 0)", x.sector(l, want.length, 0), NONE);
  }

  // ---- 20: walls

  static void p20_noSuchLampIsBad() {
    for (int l : NO_LAMPS) changesNothing("walls(" + l + ")", Due::busy, x -> x.walls(l), BAD);
    due("walls(0), without any", new LampPlans().walls(0), BAD);
  }

  static void p20_theSidesAlone() {
    due("walls(0)", told("b2 2;l0 0;").walls(0), 15);
    due("walls(0)", told("b9 9;l8 8;").walls(0), 15);
  }

  static void p20_noSideAtAll() {
    due("walls(0)", told("b3 3;r1 1 1;r1 2 1;u1 1 1;u2 1 1;l1 1;").walls(0), 240);
  }

  static void p20_the14th() {
    // Ten walls more: nine upon side 0, the last from 1, 0 up to side 2.
    LampPlans x = told("b9 9;r0 0 1;r0 0 1;r0 0 1;r0 0 1;r0 0 1;r0 0 1;r0 0 1;r0 0 1;r0 0 1;u1 0 9;l0 0;");
    due("walls(0)", x.walls(0), 1 + 4 + 8 + (1 << 13));
  }

  static void p20_behindTheLastComesTheFirst() {
    // Wall 4 is met between the last event and the first alone.
    LampPlans x = told("b9 9;u8 1 1;l0 1;");
    due("walls(0)", x.walls(0), 1 + 2 + 4 + 8 + 16);
    for (int k = 0; k < 6; k++) due("sector(0, " + k + ", 0)", x.sector(0, k, 0), new int[] {1, 2, 3, 0, 1, 4}[k]);
  }

  static void p20_hiddenOnesNot() {
    due("walls(0)", told("b4 4;u2 0 4;u3 0 4;l0 0;").walls(0), 1 + 4 + 8 + 16);
  }

  static void p20_oneThatIsOffToo() {
    LampPlans x = told("b2 2;r0 1 2;l0 0;");
    x.switches(0);
    due("walls(0)", x.walls(0), 1 + 2 + 8 + 16);
  }
}
