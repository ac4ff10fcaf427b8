// Boundary cases of what is told: promises 1 to 6, each sentence of the document with a test of its own.
public final class BoundariesTold extends Due {
  public static void main(String[] args) {
    run(BoundariesTold.class, 1, 6, args);
  }

  // ---- 1: a new object

  static void p01_sixSixAtFirst() {
    LampPlans x = new LampPlans();
    due("count(0)", x.count(0), 6);
    due("count(1)", x.count(1), 6);
    due("by(5, 5)", x.by(5, 5), 0);
    due("by(6, 5)", x.by(6, 5), BAD);
    due("by(5, 6)", x.by(5, 6), BAD);
  }

  static void p01_itsSidesAlone() {
    LampPlans x = new LampPlans();
    due("count(2)", x.count(2), 4);
    dueWall(x, 0, 0, 0, 6, 0);
    dueWall(x, 1, 6, 0, 6, 1);
    dueWall(x, 2, 0, 6, 6, 0);
    dueWall(x, 3, 0, 0, 6, 1);
    due("wall(4, 0)", x.wall(4, 0), BAD);
    due("breaks(4)", x.breaks(4), BAD);
    due("worst()", x.worst(), NONE);
  }

  static void p01_noLamps() {
    LampPlans x = new LampPlans();
    due("count(3)", x.count(3), 0);
    due("lamp(0, 0)", x.lamp(0, 0), BAD);
    due("all()", x.all(), 0);
    due("fewest()", x.fewest(), 0);
    due("unseen()", x.unseen(), 0);
  }

  static void p01_nothingElse() {
    LampPlans x = new LampPlans();
    due("count(4)", x.count(4), 0);
    due("count(5)", x.count(5), 0);
    due("count(6)", x.count(6), 0);
    due("clear()", x.clear(), 0);
    due("forget()", x.forget(), 0);
    due("undo()", x.undo(), STATE);
    due("back(0)", x.back(0), STATE);
    due("back(1)", x.back(1), STATE);
  }

  static void p01_objectsHaveNothingInCommon() {
    LampPlans one = busy(), other = new LampPlans();
    dueCounts(other, 6, 6, 4, 0, 0, 0, 0);
    due("undo()", other.undo(), STATE);
    due("back(0)", other.back(0), STATE);
    other.puts(5, 5);
    dueCounts(one, 5, 4, 7, 3, 2, 5, 4);
  }

  // ---- 2: type

  static void p02_theLeastLetterIs0() {
    LampPlans x = new LampPlans();
    due("type(0)", x.type(0), 1);
    changesNothing("type(-1)", Due::busy, y -> y.type(-1), BAD);
    changesNothing("type(LOW)", Due::busy, y -> y.type(LOW), BAD);
    // As a char this would be a blank.
    changesNothing("type(32 - 65536)", Due::busy, y -> y.type(32 - 65536), BAD);
  }

  static void p02_theHighestLetterIs255() {
    LampPlans x = new LampPlans();
    due("type(255)", x.type(255), 1);
    changesNothing("type(256)", Due::busy, y -> y.type(256), BAD);
    changesNothing("type(HIGH)", Due::busy, y -> y.type(HIGH), BAD);
    changesNothing("type(256 + 32)", Due::busy, y -> y.type(256 + 32), BAD);
    changesNothing("type(65536 + 32)", Due::busy, y -> y.type(65536 + 32), BAD);
  }

  static void p02_the120thIsTaken() {
    LampPlans x = new LampPlans();
    for (int i = 1; i <= 120; i++) due("type(32)", x.type(32), i);
    due("count(5)", x.count(5), 120);
  }

  static void p02_fullAt120() {
    LampPlans x = new LampPlans();
    for (int i = 1; i <= 115; i++) x.type(32);
    types(x, "l0 0;");
    due("type(120)", x.type(120), FULL);
    due("count(5)", x.count(5), 120);
    due("plan(), without the letter that was refused", x.plan(), 1);
  }

  static void p02_badAheadOfFull() {
    LampPlans x = new LampPlans();
    for (int i = 1; i <= 120; i++) x.type(32);
    due("type(-1)", x.type(-1), BAD);
    due("type(256)", x.type(256), BAD);
    due("type(32)", x.type(32), FULL);
  }

  static void p02_roomAgainBehindClear() {
    LampPlans x = new LampPlans();
    for (int i = 1; i <= 120; i++) x.type(120);
    x.clear();
    due("type(32)", x.type(32), 1);
    due("plan(), without the letters ahead", x.plan(), 0);
  }

  static void p02_roomAgainBehindPlan() {
    LampPlans x = new LampPlans();
    for (int i = 1; i <= 120; i++) x.type(32);
    due("plan()", x.plan(), 0);
    due("type(32)", x.type(32), 1);
  }

  // ---- 3: clear

  static void p03_emptyHad0() {
    LampPlans x = new LampPlans();
    due("clear()", x.clear(), 0);
    x.type(32);
    x.clear();
    due("clear(), again", x.clear(), 0);
  }

  static void p03_fullHad120() {
    LampPlans x = new LampPlans();
    for (int i = 1; i <= 121; i++) x.type(120);
    due("clear()", x.clear(), 120);
    due("count(5)", x.count(5), 0);
    due("plan()", x.plan(), 0);
  }

  static void p03_aFaultyTextToo() {
    LampPlans x = new LampPlans();
    due("plan()", tells(x, "l0 x"), -13);
    due("clear()", x.clear(), 4);
    due("plan()", x.plan(), 0);
  }

  static void p03_theTextAlone() {
    LampPlans x = busy();
    due("clear()", x.clear(), 5);
    dueCounts(x, 5, 4, 7, 3, 2, 0, 4);
    changesNothing("clear() and the same text again", Due::busy, y -> {
      int had = y.clear();
      types(y, "l1 1;");
      return had;
    }, 5);
  }

  // ---- 4: plan, what a text may be

  static void p04_noItems() {
    LampPlans x = busy();
    x.clear();
    due("plan()", x.plan(), 0);
    dueCounts(x, 6, 6, 4, 0, 0, 0, 0);
  }

  static void p04_blanksAlone() {
    dueTold(" ", 0);
    dueTold(" ".repeat(120), 0);
  }

  static void p04_blanksAheadBetweenBehind() {
    LampPlans x = told("   b   3   4   ;   r  0  1  2  ;  u  1  0  3  ;  l  2  3  ;   ");
    dueCounts(x, 3, 4, 6, 1, 0, 0, 0);
    dueWall(x, 4, 0, 1, 2, 0);
    dueWall(x, 5, 1, 0, 3, 1);
    dueLamp(x, 0, 2, 3, 1);
  }

  static void p04_noBlanksWhereTokensEndWithout() {
    LampPlans x = told("b3 4;r0 1 2;u1 0 3;l2 3;");
    dueCounts(x, 3, 4, 6, 1, 0, 0, 0);
    // Only between numbers a blank is needed: 34 is one number.
    dueTold("b34;", -11);
    dueTold("b3 4;r01 2;", -16);
  }

  static void p04_blankIs32Alone() {
    for (int letter : new int[] {0, 9, 10, 13, 31, 33, 160}) {
      dueTold("l0" + (char) letter + "0;", -12);
      dueTold("l0 0;" + (char) letter, -15);
    }
  }

  static void p04_itemsAreCounted() {
    dueTold("b2 2;", 1);
    dueTold("l0 0;", 1);
    dueTold("b9 9;l0 0;r0 0 1;u0 0 1;", 4);
  }

  static void p04_mostItemsInOneText() {
    LampPlans x = new LampPlans();
    due("plan()", tells(x, "b6 9;" + TEN_WALLS + EIGHT_LAMPS), 19);
    dueCounts(x, 6, 9, 14, 8, 0, 0, 0);
  }

  static void p04_theLeastWidthAndHeightAre2() {
    LampPlans x = told("b2 2;");
    due("count(0)", x.count(0), 2);
    due("count(1)", x.count(1), 2);
    dueTold("b1 2;", -11);
    dueTold("b2 1;", -13);
    dueTold("b0 2;", -11);
    dueTold("b2 0;", -13);
  }

  static void p04_theMostWidthAndHeightAre9() {
    LampPlans x = told("b9 9;");
    due("count(0)", x.count(0), 9);
    due("count(1)", x.count(1), 9);
    dueTold("b10 9;", -11);
    dueTold("b9 10;", -13);
  }

  static void p04_widthAheadOfHeight() {
    LampPlans x = told("b2 9;");
    due("count(0)", x.count(0), 2);
    due("count(1)", x.count(1), 9);
    LampPlans y = told("b9 2;l8 1;");
    due("count(0)", y.count(0), 9);
    due("count(1)", y.count(1), 2);
    dueTold("b9 2;l1 8;", -18);
    dueTold("b2 9;l8 1;", -16);
  }

  static void p04_sixSixWithoutB() {
    LampPlans x = told("b2 3;");
    due("plan()", tells(x, "l5 5;"), 1);
    due("count(0)", x.count(0), 6);
    due("count(1)", x.count(1), 6);
    LampPlans y = told("b9 9;");
    due("plan()", tells(y, "l6 5;"), -11);
    y.clear();
    due("plan()", tells(y, "l5 6;"), -13);
  }

  static void p04_sidesOfThePlanToldAnew() {
    LampPlans x = told("b2 9;");
    dueWall(x, 0, 0, 0, 2, 0);
    dueWall(x, 1, 2, 0, 9, 1);
    dueWall(x, 2, 0, 9, 2, 0);
    dueWall(x, 3, 0, 0, 9, 1);
    x.plan();
    dueWall(x, 0, 0, 0, 6, 0);
    dueWall(x, 1, 6, 0, 6, 1);
    dueWall(x, 2, 0, 6, 6, 0);
    dueWall(x, 3, 0, 0, 6, 1);
  }

  static void p04_lampsAreOnAtFirst() {
    LampPlans x = told(EIGHT_LAMPS);
    for (int l = 0; l < 8; l++) due("lamp(" + l + ", 2)", x.lamp(l, 2), 1);
    x.switches(7);
    due("plan()", tells(x, EIGHT_LAMPS), 8);
    due("lamp(7, 2), told anew", x.lamp(7, 2), 1);
  }

  static void p04_theTextIsEmptyThen() {
    LampPlans x = told("b2 2;l0 0;");
    due("count(5)", x.count(5), 0);
    due("clear()", x.clear(), 0);
    due("plan(), again", x.plan(), 0);
    dueCounts(x, 6, 6, 4, 0, 0, 0, 0);
  }

  static void p04_nothingSeenAnew() {
    LampPlans x = busy();
    x.plan();
    due("count(4)", x.count(4), 0);
    due("unseen()", x.unseen(), 1);
    for (int i = 1; i <= 6; i++) due("sees(0, 0, 0)", x.sees(0, 0, 0), i);
  }

  static void p04_nothingToBeUndoneAnew() {
    LampPlans x = busy();
    x.plan();
    due("count(6)", x.count(6), 0);
    due("undo()", x.undo(), STATE);
    x.puts(5, 5);
    due("undo()", x.undo(), 0);
    due("undo()", x.undo(), STATE);
    dueLamp(x, 0, 1, 1, 1);
  }

  static void p04_imagesAreGoneAnew() {
    LampPlans x = busy();
    x.plan();
    due("back(0)", x.back(0), STATE);
    due("back(1)", x.back(1), STATE);
    x.keep(1);
    due("back(0)", x.back(0), STATE);
    due("back(1)", x.back(1), 1);
  }

  // ---- 4: plan, faults

  static void p04_aFaultChangesNothing() {
    changesNothing("plan() of a text with a fault at its end", () -> {
      LampPlans x = busy();
      x.clear();
      types(x, "b9 9;r0 0 9;l8 8;l8 8;");
      return x;
    }, LampPlans::plan, -30);
    changesNothing("plan() of a text that ends too early", () -> {
      LampPlans x = busy();
      x.clear();
      types(x, "b2 2;r0 0 1;l1 1");
      return x;
    }, LampPlans::plan, -26);
  }

  static void p04_theTextStaysWithItsFault() {
    LampPlans x = new LampPlans();
    due("plan()", tells(x, "l0 0"), -14);
    due("count(5)", x.count(5), 4);
    due("plan(), again", x.plan(), -14);
    due("type(';')", x.type(';'), 5);
    due("plan(), ended", x.plan(), 1);
  }

  static void p04_faultAtTheFirstPlace() {
    dueTold("x", -10);
    dueTold(";", -10);
    dueTold("0", -10);
    dueTold("10", -10);
  }

  static void p04_faultAtTheLastPlace() {
    dueTold(" ".repeat(119) + "x", -129);
    dueTold(" ".repeat(119) + ";", -129);
    dueTold(" ".repeat(118) + "99", -128);
  }

  static void p04_tooEarlyAt120() {
    dueTold(" ".repeat(119) + "b", -130);
    dueTold(" ".repeat(116) + "l0 0", -130);
    dueTold("l0 0" + " ".repeat(116), -130);
  }

  static void p04_tooEarlyAtEachPlace() {
    String text = "b3 4;r0 1 2;u0 1 2;l1 1;";
    int items = 0;
    for (int n = 0; n <= text.length(); n++) {
      boolean ended = n == 0 || text.charAt(n - 1) == ';';
      if (n > 0 && ended) items++;
      dueTold(text.substring(0, n), ended ? items : -10 - n);
    }
  }

  static void p04_tooEarlyBehindBlanks() {
    dueTold("b  ", -13);
    dueTold("b3  ", -14);
    dueTold("r0 0 1   ", -19);
    dueTold("  l", -13);
  }

  static void p04_anyOtherLetterAheadOfItems() {
    for (int letter = 0; letter < 256; letter++) {
      int want = letter == ' ' ? 0 : "brul".indexOf(letter) >= 0 ? -11 : -10;
      LampPlans x = new LampPlans();
      x.type(letter);
      due("plan() of the letter " + letter, x.plan(), want);
    }
  }

  static void p04_anyOtherLetterBehindAnItem() {
    for (int letter = 0; letter < 256; letter++) {
      int want = letter == ' ' ? 1 : "rul".indexOf(letter) >= 0 ? -16 : -15;
      LampPlans x = new LampPlans();
      types(x, "l0 0;");
      x.type(letter);
      due("plan() of an item and the letter " + letter, x.plan(), want);
    }
  }

  static void p04_anyOtherLetterForANumber() {
    for (int letter = 0; letter < 256; letter++) {
      int want = letter >= '0' && letter <= '5' ? 1 : letter == ' ' ? -14 : -11;
      dueTold("l" + (char) letter + " 0;", want);
    }
  }

  static void p04_anyOtherLetterForTheEnd() {
    for (int letter = 0; letter < 256; letter++) {
      int want = letter == ';' ? 1 : letter == ' ' ? -16 : -15;
      dueTold("l0 0 " + (char) letter, want);
    }
  }

  static void p04_anyOtherLetterRightBehindANumber() {
    for (int letter = 0; letter < 256; letter++) {
      boolean figure = letter >= '0' && letter <= '9';
      int want = letter == ';' ? 1 : letter == ' ' ? -15 : figure ? -13 : -14;
      dueTold("l0 1" + (char) letter, want);
    }
  }

  static void p04_aNumberAbove9() {
    dueTold("l10 0;", -11);
    dueTold("l0  10;", -14);
    dueTold("r0 0 10;", -15);
    dueTold("b3 3;11", -15);
    dueTold("l0 0 11", -15);
    dueTold("l99", -11);
    dueTold("b" + "9".repeat(119), -11);
  }

  static void p04_aNumberThatWrapsAround() {
    dueTold("l256 0;", -11);
    dueTold("l65536 0;", -11);
    dueTold("l4294967296 0;", -11);
    dueTold("l18446744073709551616 0;", -11);
    dueTold("b4294967302 6;", -11);
    dueTold("b6 4294967302;", -13);
    dueTold("r0 0 4294967297;", -15);
  }

  static void p04_aNumberWithA0AheadOfOthers() {
    dueTold("l00 0;", -11);
    dueTold("l0 00;", -13);
    dueTold("l01 0;", -11);
    dueTold("b03 3;", -11);
    dueTold("b3 03;", -13);
    dueTold("u0 0 01;", -15);
    dueTold("l0 0 00", -15);
    dueTold("0" + "0".repeat(100), -10);
  }

  static void p04_0AloneIsANumber() {
    LampPlans x = told("l0 0;");
    dueLamp(x, 0, 0, 0, 1);
  }

  static void p04_bBehindAnotherItem() {
    dueTold("b3 3;b3 3;", -15);
    dueTold("r0 0 1;b3 3;", -17);
    dueTold("u0 0 1;b3 3;", -17);
    dueTold("l0 0;  b3 3;", -17);
    dueTold("l0 0;b", -15);
    dueTold("  b3 3;", 1);
  }

  static void p04_aTokenThatCantStand() {
    String[] tokens = {"b", "r", "u", "l", ";", "9 9"};
    for (String token : tokens) {
      if (!token.startsWith("9")) dueTold("b " + token, -12);
      if (!token.startsWith("9")) dueTold("b3 " + token, -13);
      if (!token.equals(";")) dueTold("b3 3 " + token, -15);
      if (!token.startsWith("9")) dueTold("r" + token, -11);
      if (!token.startsWith("9")) dueTold("u0 " + token, -13);
      if (!token.startsWith("9")) dueTold("u0 0 " + token, -15);
      if (!token.equals(";")) dueTold("u0 0 1 " + token, -17);
      if (!token.equals(";")) dueTold("l0 0 " + token, -15);
    }
    dueTold("b3 3;;", -15);
    dueTold("l0 0;5", -15);
  }

  static void p04_theFirstFaultIsTold() {
    dueTold("l6 6;", -11);
    dueTold("l6 00", -11);
    dueTold("r0 7 0;", -13);
    dueTold("l0 0;l0 0;x", -18);
    dueTold("b1 1", -11);
    dueTold("l0 6x", -13);
    dueTold("l0 x6", -13);
  }

  static void p04_aWallToTheRightFromX() {
    dueTold("b4 3;r3 0 1;", 2);
    // From W on there is none to the right.
    dueTold("b4 3;r4 0 1;", -16);
    dueTold("b4 3;r5 0 1;", -16);
    dueTold("b9 3;r9 0 1;", -16);
    dueTold("b4 3;r9 9 9;", -16);
  }

  static void p04_aWallToTheRightFromY() {
    dueTold("b4 3;r0 0 1;", 2);
    dueTold("b4 3;r0 3 1;", 2);
    dueTold("b4 3;r0 4 1;", -18);
    dueTold("b3 4;r0 4 1;", 2);
    dueTold("b3 4;r0 5 1;", -18);
  }

  static void p04_aWallToTheRightOfL() {
    dueTold("b4 3;r0 1 4;", 2);
    dueTold("b4 3;r0 1 5;", -20);
    dueTold("b4 3;r3 1 1;", 2);
    dueTold("b4 3;r3 1 2;", -20);
    dueTold("b9 9;r0 9 9;", 2);
    dueTold("b4 3;r0 1 0;", -20);
  }

  static void p04_aWallUpFromX() {
    dueTold("b4 3;u0 0 1;", 2);
    dueTold("b4 3;u4 0 1;", 2);
    dueTold("b4 3;u5 0 1;", -16);
    dueTold("b3 4;u3 0 1;", 2);
    dueTold("b3 4;u4 0 1;", -16);
  }

  static void p04_aWallUpFromY() {
    dueTold("b4 3;u0 2 1;", 2);
    // From H on there is none up.
    dueTold("b4 3;u0 3 1;", -18);
    dueTold("b4 3;u0 4 1;", -18);
    dueTold("b3 9;u0 9 1;", -18);
  }

  static void p04_aWallUpOfL() {
    dueTold("b4 3;u1 0 3;", 2);
    dueTold("b4 3;u1 0 4;", -20);
    dueTold("b4 3;u1 2 1;", 2);
    dueTold("b4 3;u1 2 2;", -20);
    dueTold("b9 9;u9 0 9;", 2);
    dueTold("b4 3;u1 0 0;", -20);
  }

  static void p04_wallsMayBeAtOnePlace() {
    LampPlans x = told("b3 3;r0 0 3;u3 0 3;r0 3 3;u0 0 3;r1 1 1;r1 1 1;");
    due("count(2)", x.count(2), 10);
  }

  static void p04_14WallsAtMost() {
    LampPlans x = told(TEN_WALLS);
    due("count(2)", x.count(2), 14);
    dueWall(x, 13, 0, 1, 1, 0);
    dueTold(TEN_WALLS + "r0 0 1;", -80);
    dueTold(TEN_WALLS + "u0 0 1;", -80);
    dueTold("b9 9; " + TEN_WALLS + "  u0 0 1;", -88);
  }

  static void p04_aWallTooManyIsToldByItsLetter() {
    dueTold(TEN_WALLS + "r", -80);
    dueTold(TEN_WALLS + " u9", -81);
  }

  static void p04_lampsBehind14Walls() {
    dueTold(TEN_WALLS + "l0 0;", 11);
  }

  static void p04_8LampsAtMost() {
    LampPlans x = told(EIGHT_LAMPS);
    due("count(3)", x.count(3), 8);
    dueLamp(x, 7, 1, 1, 1);
    dueTold(EIGHT_LAMPS + "l2 1;", -50);
  }

  static void p04_aLampTooManyIsToldByItsLetter() {
    dueTold(EIGHT_LAMPS + " l", -51);
    dueTold(EIGHT_LAMPS + "l0 0;", -50);
  }

  static void p04_wallsBehind8Lamps() {
    dueTold(EIGHT_LAMPS + "r0 0 1;u0 0 1;", 10);
  }

  static void p04_aSpotWithinThePlan() {
    dueTold("b4 3;l0 0;l3 2;", 3);
    dueTold("b4 3;l4 0;", -16);
    dueTold("b4 3;l0 3;", -18);
    dueTold("b4 3;l9 9;", -16);
    dueTold("b9 9;l9 0;", -16);
    dueTold("b9 9;l0 9;", -18);
  }

  static void p04_aSpotThatHasALampIsToldByItsY() {
    dueTold("l3 3;l3   3;", -20);
    dueTold("l3 3;l3 3", -18);
    dueTold("l1 2;l2 1;l1 1;l2 2;l1 2;", -33);
    dueTold("l1 2;l1 3;l2 2;", 3);
  }

  // ---- 5: wall

  static void p05_sidesOfTheLeastPlan() {
    LampPlans x = told("b2 2;");
    dueWall(x, 0, 0, 0, 2, 0);
    dueWall(x, 1, 2, 0, 2, 1);
    dueWall(x, 2, 0, 2, 2, 0);
    dueWall(x, 3, 0, 0, 2, 1);
  }

  static void p05_sidesOfTheLargestPlan() {
    LampPlans x = told("b9 9;");
    dueWall(x, 0, 0, 0, 9, 0);
    dueWall(x, 1, 9, 0, 9, 1);
    dueWall(x, 2, 0, 9, 9, 0);
    dueWall(x, 3, 0, 0, 9, 1);
  }

  static void p05_noSuchWallIsBad() {
    for (int w : new int[] {-1, 7, 8, 13, 14, LOW, HIGH, 1 << 30, -(1 << 30)}) {
      changesNothing("wall(" + w + ", 0)", Due::busy, x -> x.wall(w, 0), BAD);
    }
  }

  static void p05_noSuchPartIsBad() {
    for (int what : new int[] {-1, 4, -4, LOW, HIGH}) {
      changesNothing("wall(5, " + what + ")", Due::busy, x -> x.wall(5, what), BAD);
    }
  }

  static void p05_theLastOf14() {
    LampPlans x = told("r0 1 1;r0 1 1;r0 1 1;r0 1 1;r0 1 1;r0 1 1;r0 1 1;r0 1 1;r0 1 1;u6 5 1;");
    dueWall(x, 12, 0, 1, 1, 0);
    dueWall(x, 13, 6, 5, 1, 1);
    due("wall(14, 0)", x.wall(14, 0), BAD);
  }

  static void p05_theLongest() {
    LampPlans x = told("b9 9;r0 9 9;u9 0 9;");
    dueWall(x, 4, 0, 9, 9, 0);
    dueWall(x, 5, 9, 0, 9, 1);
  }

  // ---- 6: lamp

  static void p06_noSuchLampIsBad() {
    for (int l : new int[] {-1, 3, 4, 7, 8, LOW, HIGH, 1 << 30, -(1 << 30)}) {
      changesNothing("lamp(" + l + ", 0)", Due::busy, x -> x.lamp(l, 0), BAD);
    }
  }

  static void p06_noLampAtAllIsBad() {
    due("lamp(0, 0)", told("b3 3;").lamp(0, 0), BAD);
  }

  static void p06_noSuchPartIsBad() {
    for (int what : new int[] {-1, 3, -3, LOW, HIGH}) {
      changesNothing("lamp(1, " + what + ")", Due::busy, x -> x.lamp(1, what), BAD);
    }
  }

  static void p06_theLastOf8() {
    LampPlans x = told("b9 9;l8 0;l7 0;l6 0;l5 0;l4 0;l3 0;l2 0;l8 8;");
    dueLamp(x, 6, 2, 0, 1);
    dueLamp(x, 7, 8, 8, 1);
    due("lamp(8, 0)", x.lamp(8, 0), BAD);
  }

  static void p06_onAtFirstThenOff() {
    LampPlans x = told("l0 5;l5 0;");
    dueLamp(x, 0, 0, 5, 1);
    x.switches(0);
    dueLamp(x, 0, 0, 5, 0);
    dueLamp(x, 1, 5, 0, 1);
  }
}
