// Boundary cases of fewest, best, worst, of which lamp is out, and of images: promises 21 to 30, each sentence of the
// document with a test of its own.
public final class BoundariesBest extends Due {
  public static void main(String[] args) {
    run(BoundariesBest.class, 21, 30, args);
  }

  // Nine walls upon side 0, so that the 14th alone can keep anything in the dark.
  private static final String NINE_UPON_A_SIDE = "r0 0 1;".repeat(9);

  // ---- 21: fewest

  static void p21_noLamps() {
    due("fewest()", new LampPlans().fewest(), 0);
  }

  static void p21_oneLamp() {
    due("fewest()", told("l3 3;").fewest(), 1);
    due("fewest(), closed in", told("b2 2;r0 1 2;u1 0 2;l1 1;").fewest(), 1);
  }

  static void p21_onOrOff() {
    LampPlans x = told("b4 4;u2 0 4;l0 0;l3 3;");
    due("fewest()", x.fewest(), 3);
    x.switches(0);
    due("fewest()", x.fewest(), 3);
    x.switches(1);
    due("fewest(), all are off", x.fewest(), 3);
  }

  static void p21_theLeastAsBits() {
    due("fewest(), each will do", told(EIGHT_LAMPS).fewest(), 1);
    // Rooms of lamps 0 and 3, and of 1 and 2: 3, 5, 10 and 12 are enough.
    due("fewest(), one of each room", told("b4 4;u2 0 4;l0 0;l3 0;l3 3;l0 3;").fewest(), 3);
    // Rooms of lamps 0 and 1, and of 2 and 3: 5, 6, 9 and 10 are enough.
    due("fewest(), one of each room", told("b4 4;u2 0 4;l0 0;l0 3;l3 0;l3 3;").fewest(), 5);
  }

  static void p21_fewerAheadOfLess() {
    // Lamp 2 lights all, 0 and 1 together as much without it.
    due("fewest()", told("b2 4;u1 0 1;l0 0;l1 0;l0 3;").fewest(), 4);
    // The 8th is behind a wall, of which the others pass nothing but the end.
    due("fewest(), the first and the 8th", told("b8 2;r0 1 7;l0 0;l1 0;l2 0;l3 0;l4 0;l5 0;l6 0;l7 1;").fewest(), 129);
  }

  static void p21_all8() {
    LampPlans x = told("b8 2;u1 0 2;u2 0 2;u3 0 2;u4 0 2;u5 0 2;u6 0 2;u7 0 2;l0 0;l1 0;l2 0;l3 0;l4 0;l5 0;l6 0;l7 0;");
    due("fewest()", x.fewest(), 255);
    x.takes(7);
    due("fewest()", x.fewest(), 127);
  }

  static void p21_spotsThatNoneLightsDontCount() {
    due("fewest()", told("b4 4;u1 0 4;u2 0 4;u3 0 4;l0 0;l0 3;").fewest(), 1);
  }

  static void p21_theFirstSpotCounts() {
    // Lamp 0 lights each spot but 0, 0, which is closed in.
    due("fewest()", told("b3 3;r0 1 1;u1 0 1;l2 2;l0 0;").fewest(), 3);
  }

  static void p21_theLastSpotCounts() {
    due("fewest()", told("b3 3;r2 2 1;u2 2 1;l0 0;l2 2;").fewest(), 3);
    due("fewest()", told("b9 9;r8 8 1;u8 8 1;l0 0;l8 8;").fewest(), 3);
  }

  static void p21_ofTheLargestPlan() {
    due("fewest()", told("b9 9;l0 0;l8 8;").fewest(), 1);
  }

  static void p21_aSmallerPlanBehindALarger() {
    LampPlans x = told("b9 9;u1 0 9;l0 0;l8 8;");
    due("fewest()", x.fewest(), 3);
    due("plan()", tells(x, "b2 2;l0 0;l1 1;"), 3);
    due("fewest()", x.fewest(), 1);
  }

  static void p21_nothingIsChanged() {
    changesNothing("fewest()", Due::busy, LampPlans::fewest, busy().fewest());
  }

  // ---- 22: best

  static void p22_noSuchPartIsBad() {
    for (int what : new int[] {-1, 3, LOW, HIGH}) {
      changesNothing("best(" + what + ")", Due::busy, x -> x.best(what), BAD);
    }
  }

  static void p22_noLamps() {
    dueBest(new LampPlans(), 0, 0, 36);
    dueBest(told("b2 2;"), 0, 0, 4);
    dueBest(told("b9 9;"), 0, 0, 81);
  }

  static void p22_noneIfEachSpotHasALamp() {
    LampPlans x = told("b2 2;l0 0;l1 0;l0 1;l1 1;");
    dueBest(x, NONE, NONE, NONE);
    x.switches(2);
    dueBest(x, NONE, NONE, NONE);
    LampPlans y = told("b2 4;l0 0;l1 0;l0 1;l1 1;l0 2;l1 2;l0 3;l1 3;");
    dueBest(y, NONE, NONE, NONE);
  }

  static void p22_badAheadOfNone() {
    LampPlans x = told("b2 2;l0 0;l1 0;l0 1;l1 1;");
    due("best(3)", x.best(3), BAD);
    due("best(-1)", x.best(-1), BAD);
  }

  static void p22_theOnlySpotThatIsLeft() {
    dueBest(told("b2 2;l0 0;l1 0;l0 1;"), 1, 1, 0);
    dueBest(told("b2 4;l1 3;l1 0;l0 1;l1 1;l0 2;l1 2;l0 3;"), 0, 0, 0);
  }

  static void p22_allIsLit() {
    dueBest(told("l0 0;"), 1, 0, 0);
    dueBest(told("b2 2;l0 0;l1 0;"), 0, 1, 0);
  }

  static void p22_notWhereALampIs() {
    LampPlans x = told("b4 4;u1 0 4;l0 0;l3 3;");
    x.switches(0);
    // The lamp at 0, 0 is off: its room is dark, but it has its spot.
    dueBest(x, 0, 1, 4);
  }

  static void p22_theLowestYThenX() {
    dueBest(told("b4 4;r0 2 4;l0 0;"), 0, 2, 8);
    dueBest(told("b4 4;u2 0 4;l0 0;"), 2, 0, 8);
    // Four rooms of one size, of which that at 0, 0 is lit: the lowest y comes ahead of the lowest x.
    dueBest(told("b4 4;u2 0 4;r0 2 4;l0 0;"), 2, 0, 4);
  }

  static void p22_moreAheadOfLower() {
    dueBest(told("b4 4;r0 1 4;"), 0, 1, 12);
    dueBest(told("b4 4;u1 0 4;"), 1, 0, 12);
  }

  static void p22_spotsThatAreLitDontCount() {
    // The upper room has 12 spots, but is lit.
    dueBest(told("b4 4;r0 1 4;l3 3;"), 0, 0, 4);
  }

  static void p22_with8Lamps() {
    dueBest(told("b9 2;u8 0 2;l0 0;l1 0;l2 0;l3 0;l4 0;l5 0;l6 0;l7 0;"), 8, 0, 2);
  }

  static void p22_nothingIsChanged() {
    for (int what = 0; what < 3; what++) {
      int part = what;
      changesNothing("best(" + what + ")", Due::busy, x -> x.best(part), busy().best(part));
    }
  }

  private static void dueBest(LampPlans x, int... want) {
    for (int what = 0; what < 3; what++) due("best(" + what + ")", x.best(what), want[what]);
  }

  // ---- 23: gain

  static void p23_sidesAreBad() {
    for (int w = 0; w < 4; w++) {
      int side = w;
      changesNothing("gain(" + w + ")", Due::busy, x -> x.gain(side), BAD);
    }
  }

  static void p23_noSuchWallIsBad() {
    for (int w : new int[] {-1, 7, 13, 14, LOW, HIGH, 1 << 30}) {
      changesNothing("gain(" + w + ")", Due::busy, x -> x.gain(w), BAD);
    }
    due("gain(4), only sides", told("l0 0;").gain(4), BAD);
  }

  static void p23_nothingMore() {
    due("gain(4), no lamps", told("u1 0 6;").gain(4), 0);
    due("gain(4), lit on both sides", told("b2 2;u1 0 2;l0 0;l1 0;").gain(4), 0);
    due("gain(4), one of two at one place", told("b2 2;u1 0 2;u1 0 2;l0 0;").gain(4), 0);
    due("gain(4), upon a side", told("b2 2;u2 0 2;l0 0;").gain(4), 0);
  }

  static void p23_lampsThatAreOnAlone() {
    LampPlans x = told("b2 2;u1 0 2;l0 0;");
    due("gain(4)", x.gain(4), 2);
    x.switches(0);
    due("gain(4)", x.gain(4), 0);
  }

  static void p23_the14thWall() {
    LampPlans x = told("b9 9;" + NINE_UPON_A_SIDE + "u1 0 9;l0 0;");
    due("gain(12)", x.gain(12), 0);
    due("gain(13)", x.gain(13), 72);
    due("gain(14)", x.gain(14), BAD);
  }

  static void p23_nothingIsChanged() {
    for (int w = 4; w < 7; w++) {
      int wall = w;
      changesNothing("gain(" + w + ")", Due::busy, x -> x.gain(wall), busy().gain(w));
    }
  }

  // ---- 24: worst

  static void p24_noneIfThereAreOnlySides() {
    due("worst()", new LampPlans().worst(), NONE);
    LampPlans x = told("b2 2;u1 0 2;l0 0;");
    x.breaks(4);
    due("worst()", x.worst(), NONE);
  }

  static void p24_theLowestOfSeveral() {
    due("worst(), of 2 more each", told("b3 2;u1 0 2;u2 0 2;l1 0;").worst(), 4);
    due("worst(), of 0 more each", told("b3 2;u1 0 2;u2 0 2;l0 0;l1 0;l2 0;").worst(), 4);
    due("worst(), no lamps", told("b3 2;u1 0 2;u2 0 2;").worst(), 4);
  }

  static void p24_theMostAheadOfTheLowest() {
    due("worst()", told("b4 2;u1 0 2;u2 0 2;l1 0;").worst(), 5);
    due("worst()", told("b4 2;u2 0 2;u1 0 2;l1 0;").worst(), 4);
  }

  static void p24_the14thWall() {
    due("worst()", told("b9 9;" + NINE_UPON_A_SIDE + "u1 0 9;l0 0;").worst(), 13);
  }

  static void p24_lampsThatAreOnAlone() {
    LampPlans x = told("b4 2;u1 0 2;u3 0 2;l0 0;l3 0;");
    due("worst()", x.worst(), 4);
    x.switches(0);
    due("worst()", x.worst(), 5);
  }

  static void p24_nothingIsChanged() {
    changesNothing("worst()", Due::busy, LampPlans::worst, busy().worst());
  }

  // ---- 25: sees

  static void p25_beyondThePlanIsBad() {
    int[][] spots = {{-1, 0}, {0, -1}, {5, 0}, {0, 4}, {LOW, 0}, {0, LOW}, {HIGH, 0}, {0, HIGH}};
    for (int[] s : spots) {
      changesNothing("sees(" + s[0] + ", " + s[1] + ", 0)", Due::busy, x -> x.sees(s[0], s[1], 0), BAD);
    }
    due("sees(4, 3, 0)", busy().sees(4, 3, 0), 3);
  }

  static void p25_neither0Nor1IsBad() {
    for (int is : new int[] {-1, 2, LOW, HIGH}) {
      changesNothing("sees(0, 0, " + is + ")", Due::busy, x -> x.sees(0, 0, is), BAD);
    }
  }

  static void p25_the6thIsSeen() {
    LampPlans x = told("b2 2;l0 0;");
    for (int i = 1; i <= 6; i++) due("sees(1, 1, 0)", x.sees(1, 1, 0), i);
    due("count(4)", x.count(4), 6);
  }

  static void p25_fullAt6() {
    changesNothing("sees(0, 0, 1)", BoundariesBest::sixSeen, x -> x.sees(0, 0, 1), FULL);
    changesNothing("sees(0, 0, 0)", BoundariesBest::sixSeen, x -> x.sees(0, 0, 0), FULL);
  }

  static void p25_badAheadOfFull() {
    changesNothing("sees(2, 0, 0)", BoundariesBest::sixSeen, x -> x.sees(2, 0, 0), BAD);
    changesNothing("sees(0, 0, 2)", BoundariesBest::sixSeen, x -> x.sees(0, 0, 2), BAD);
  }

  private static LampPlans sixSeen() {
    LampPlans x = told("b2 2;l0 0;l1 1;");
    for (int i = 0; i < 6; i++) x.sees(i % 2, i / 2 % 2, 1);
    return x;
  }

  static void p25_roomAgainBehindForget() {
    LampPlans x = sixSeen();
    x.forget();
    due("sees(0, 0, 0)", x.sees(0, 0, 0), 1);
  }

  static void p25_withoutAnyLamp() {
    LampPlans x = new LampPlans();
    due("sees(5, 5, 1)", x.sees(5, 5, 1), 1);
    due("unseen()", x.unseen(), 0);
  }

  static void p25_theSameTwiceAndItsContrary() {
    LampPlans x = told("b2 2;l0 0;");
    due("sees(0, 0, 1)", x.sees(0, 0, 1), 1);
    due("sees(0, 0, 1)", x.sees(0, 0, 1), 2);
    due("sees(0, 0, 0)", x.sees(0, 0, 0), 3);
  }

  static void p25_nothingElseIsChanged() {
    LampPlans x = busy();
    x.sees(2, 2, 0);
    dueCounts(x, 5, 4, 7, 3, 3, 5, 4);
  }

  // ---- 26: forget

  static void p26_nothingWasSeen() {
    changesNothing("forget()", LampPlans::new, LampPlans::forget, 0);
  }

  static void p26_sixWereSeen() {
    LampPlans x = sixSeen();
    due("forget()", x.forget(), 6);
    due("count(4)", x.count(4), 0);
    due("forget(), again", x.forget(), 0);
    due("unseen()", x.unseen(), 3);
  }

  static void p26_nothingElseIsForgotten() {
    LampPlans x = busy();
    due("forget()", x.forget(), 2);
    dueCounts(x, 5, 4, 7, 3, 0, 5, 4);
    due("back(0)", x.back(0), 3);
  }

  // ---- 27: unseen

  static void p27_nothingSeen() {
    LampPlans x = told(EIGHT_LAMPS);
    due("unseen()", x.unseen(), 255);
    x.switches(0);
    due("unseen(), those that are on", x.unseen(), 254);
    x.switches(7);
    due("unseen(), those that are on", x.unseen(), 126);
  }

  static void p27_noneIsOn() {
    LampPlans x = told("l0 0;");
    x.switches(0);
    due("unseen()", x.unseen(), 0);
    x.sees(0, 0, 0);
    due("unseen(), though it is dark", x.unseen(), 0);
  }

  static void p27_theOnlyOne() {
    LampPlans x = told("b2 2;r0 1 2;l0 0;");
    x.sees(0, 0, 0);
    due("unseen(), dark without it", x.unseen(), 1);
    x.sees(1, 1, 0);
    due("unseen(), dark with it, too", x.unseen(), 1);
    x.sees(1, 0, 1);
    due("unseen(), lit without it", x.unseen(), 0);
  }

  static void p27_eachXAndYOfItsOwn() {
    LampPlans x = told("b3 4;u1 0 4;r1 2 2;l0 0;l2 0;l2 3;");
    x.sees(0, 3, 0);
    due("unseen(), the room to the left", x.unseen(), 1);
    x.forget();
    x.sees(1, 0, 0);
    due("unseen(), the lower one to the right", x.unseen(), 2);
    x.forget();
    x.sees(1, 3, 0);
    due("unseen(), the upper one to the right", x.unseen(), 4);
    x.sees(1, 1, 1);
    due("unseen(), the lower one is lit", x.unseen(), 4);
    x.sees(1, 2, 1);
    due("unseen(), the upper one is lit, too", x.unseen(), 0);
  }

  static void p27_litWithoutAnyOfTwo() {
    LampPlans x = told("b2 2;l0 0;l1 1;");
    x.sees(0, 1, 1);
    due("unseen()", x.unseen(), 3);
    x.forget();
    x.sees(0, 1, 0);
    due("unseen()", x.unseen(), 0);
  }

  static void p27_litByNone() {
    LampPlans x = told("b4 2;u2 0 2;l0 0;l1 1;");
    x.sees(3, 0, 0);
    due("unseen()", x.unseen(), 3);
    x.sees(3, 1, 1);
    due("unseen()", x.unseen(), 0);
  }

  static void p27_contrariesAreNever() {
    LampPlans x = told("b2 2;u1 0 2;l0 0;l1 1;");
    x.sees(0, 0, 0);
    due("unseen()", x.unseen(), 1);
    x.sees(0, 0, 1);
    due("unseen()", x.unseen(), 0);
  }

  static void p27_theFirstAndThe6thCount() {
    LampPlans x = told("b6 2;u2 0 2;u4 0 2;l0 0;l2 0;l4 0;");
    x.sees(1, 1, 1);
    for (int i = 0; i < 4; i++) x.sees(5, 1, 1);
    due("unseen(), neither 0 nor 2", x.unseen(), 2);
    x.sees(3, 1, 1);
    due("unseen(), nor 1", x.unseen(), 0);
  }

  static void p27_the8th() {
    LampPlans x = told("b8 2;u7 0 2;l0 0;l1 0;l2 0;l3 0;l4 0;l5 0;l6 0;l7 0;");
    x.sees(7, 1, 0);
    due("unseen()", x.unseen(), 128);
    x.forget();
    x.sees(7, 1, 1);
    due("unseen()", x.unseen(), 127);
  }

  static void p27_asAllIsNow() {
    LampPlans x = told("b4 2;u2 0 2;l0 0;l3 0;");
    x.sees(0, 1, 0);
    due("unseen()", x.unseen(), 1);
    x.breaks(4);
    due("unseen(), the wall is broken", x.unseen(), 0);
    x.undo();
    due("unseen(), and stands again", x.unseen(), 1);
    x.switches(0);
    due("unseen(), lamp 0 is off", x.unseen(), 2);
    x.takes(0);
    due("unseen(), lamp 0 is taken", x.unseen(), 1);
  }

  static void p27_nothingIsChanged() {
    changesNothing("unseen()", Due::busy, LampPlans::unseen, busy().unseen());
  }

  // ---- 28: keep

  static void p28_noSuchImageIsBad() {
    for (int image : new int[] {-1, 2, LOW, HIGH}) {
      changesNothing("keep(" + image + ")", Due::busy, x -> x.keep(image), BAD);
    }
  }

  static void p28_noLamps() {
    LampPlans x = new LampPlans();
    due("keep(0)", x.keep(0), 0);
    x.puts(0, 0);
    x.builds(1, 1, 1, 1);
    due("back(0)", x.back(0), 0);
    dueCounts(x, 6, 6, 4, 0, 0, 0, 0);
  }

  static void p28_eightLamps14Walls() {
    LampPlans x = told("b9 9;" + NINE_UPON_A_SIDE + "u1 0 9;l0 0;l1 0;l2 0;l3 0;l4 0;l5 0;l6 0;l7 8;");
    x.switches(7);
    due("keep(1)", x.keep(1), 8);
    while (x.takes(0) > 0) due("breaks(4), not refused", Math.min(x.breaks(4), 0), 0);
    due("back(1)", x.back(1), 8);
    dueCounts(x, 9, 9, 14, 8, 0, 0, 0);
    dueLamp(x, 7, 7, 8, 0);
    dueLamp(x, 0, 0, 0, 1);
    dueWall(x, 13, 1, 0, 9, 1);
    dueWall(x, 4, 0, 0, 1, 0);
  }

  static void p28_twoApart() {
    LampPlans x = told("l0 0;");
    due("keep(0)", x.keep(0), 1);
    x.puts(1, 1);
    due("keep(1)", x.keep(1), 2);
    due("back(0)", x.back(0), 1);
    due("back(1)", x.back(1), 2);
    due("back(0)", x.back(0), 1);
  }

  static void p28_keptAnew() {
    LampPlans x = told("l0 0;");
    x.keep(0);
    x.puts(1, 1);
    due("keep(0)", x.keep(0), 2);
    x.takes(0);
    due("back(0)", x.back(0), 2);
  }

  static void p28_nothingElseIsChanged() {
    LampPlans x = busy();
    due("keep(0)", x.keep(0), 3);
    dueCounts(x, 5, 4, 7, 3, 2, 5, 4);
    due("undo()", x.undo(), 3);
    dueLamp(x, 0, 0, 0, 1);
  }

  // ---- 29: back

  static void p29_noSuchImageIsBad() {
    for (int image : new int[] {-1, 2, LOW, HIGH}) {
      changesNothing("back(" + image + ")", Due::busy, x -> x.back(image), BAD);
      changesNothing("back(" + image + ")", LampPlans::new, x -> x.back(image), BAD);
    }
  }

  static void p29_stateIfNoneWasKept() {
    for (int i = 0; i < 2; i++) {
      int image = i;
      changesNothing("back(" + i + "), none kept", () -> withoutImage(2), x -> x.back(image), STATE);
      changesNothing("back(" + i + "), the other kept", () -> withoutImage(image), x -> x.back(image), STATE);
    }
  }

  // A plan with something to be undone and seen, and with the image that is not this one (with none, if it is 2).
  private static LampPlans withoutImage(int image) {
    LampPlans x = told("u2 2 2;l0 0;l5 5;");
    if (image < 2) x.keep(1 - image);
    x.switches(1);
    x.takes(0);
    x.sees(0, 0, 1);
    types(x, "l3 3;");
    return x;
  }

  static void p29_lampsAndWallsAlone() {
    LampPlans x = busy();
    due("back(0)", x.back(0), 3);
    dueCounts(x, 5, 4, 6, 3, 2, 5, 0);
    dueLamp(x, 0, 0, 0, 1);
    dueLamp(x, 1, 4, 3, 1);
    dueLamp(x, 2, 2, 2, 1);
    dueWall(x, 4, 1, 1, 2, 0);
    dueWall(x, 5, 3, 2, 2, 1);
    due("back(1)", x.back(1), 4);
    dueCounts(x, 5, 4, 7, 4, 2, 5, 0);
    dueLamp(x, 1, 4, 3, 0);
    dueLamp(x, 3, 1, 3, 1);
    dueWall(x, 6, 2, 0, 1, 1);
    due("plan(), the letters are the same", x.plan(), 1);
  }

  static void p29_whatIsSeenStays() {
    LampPlans x = told("b2 2;u1 0 2;l0 0;l1 1;");
    x.keep(0);
    x.sees(0, 0, 0);
    x.switches(0);
    due("unseen()", x.unseen(), 2);
    x.back(0);
    due("unseen()", x.unseen(), 1);
    due("forget()", x.forget(), 1);
  }

  static void p29_nothingCanBeUndoneBehindIt() {
    LampPlans x = told("l0 0;");
    for (int i = 0; i < 12; i++) x.switches(0);
    x.keep(0);
    due("count(6)", x.count(6), 10);
    due("back(0)", x.back(0), 1);
    due("count(6)", x.count(6), 0);
    due("undo()", x.undo(), STATE);
    x.puts(1, 1);
    due("undo()", x.undo(), 0);
    due("undo()", x.undo(), STATE);
  }

  static void p29_againAndAgain() {
    LampPlans x = told("u2 2 2;l0 0;");
    x.keep(1);
    for (int i = 0; i < 3; i++) {
      x.switches(0);
      x.puts(4, 4);
      x.breaks(4);
      due("back(1)", x.back(1), 1);
      dueLamp(x, 0, 0, 0, 1);
      dueWall(x, 4, 2, 2, 2, 1);
    }
  }

  static void p29_theImageIsNotChangedByWhatIsDone() {
    LampPlans x = told("u2 2 2;l0 0;l1 1;");
    x.keep(0);
    x.back(0);
    x.takes(0);
    x.switches(0);
    x.builds(0, 0, 1, 1);
    x.undo();
    due("back(0)", x.back(0), 2);
    dueCounts(x, 6, 6, 5, 2, 0, 0, 0);
    dueLamp(x, 0, 0, 0, 1);
    dueLamp(x, 1, 1, 1, 1);
  }

  static void p29_goneWhenReadAnew() {
    LampPlans x = busy();
    due("plan()", x.plan(), 1);
    due("back(0)", x.back(0), STATE);
    due("back(1)", x.back(1), STATE);
  }

  static void p29_notGoneByAFault() {
    LampPlans x = busy();
    x.type(';');
    due("plan()", x.plan(), -15);
    due("back(0)", x.back(0), 3);
    due("back(1)", x.back(1), 4);
  }

  // ---- 30: count

  static void p30_noSuchThingIsBad() {
    for (int what : new int[] {-1, 7, LOW, HIGH}) {
      changesNothing("count(" + what + ")", Due::busy, x -> x.count(what), BAD);
    }
  }

  static void p30_theLeastOfAll() {
    dueCounts(told("b2 2;"), 2, 2, 4, 0, 0, 0, 0);
  }

  static void p30_theMostOfAll() {
    LampPlans x = told("b9 9;" + TEN_WALLS + EIGHT_LAMPS);
    for (int i = 0; i < 7; i++) x.sees(8, 8, 1);
    for (int i = 0; i < 11; i++) x.switches(i % 8);
    for (int i = 0; i < 121; i++) x.type(255);
    dueCounts(x, 9, 9, 14, 8, 6, 120, 10);
  }

  static void p30_eachOfItsOwn() {
    dueCounts(busy(), 5, 4, 7, 3, 2, 5, 4);
  }
}
