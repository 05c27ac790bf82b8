/** Promises 1 to 4: a new object, enter, scratch, set. */
public final class EntriesTest extends Checks {
    public static void main(String[] args) {
        runCases(EntriesTest.class, 1, 4);
    }

    // ---- promise 1: a new object

    static void promise01_itIsInTheStage0() {
        due("count(0)", new GalaHeats().count(0), 0);
    }

    static void promise01_itIsWithoutSwimmers() {
        GalaHeats gala = new GalaHeats();
        due("count(1)", gala.count(1), 0);
        due("swimmer(0, 0)", gala.swimmer(0, 0), INVALID);
    }

    static void promise01_nobodyIsScratched() {
        due("count(2)", new GalaHeats().count(2), 0);
    }

    static void promise01_thereAreNoHeats() {
        GalaHeats gala = new GalaHeats();
        due("count(3)", gala.count(3), 0);
        due("at(0, 1)", gala.at(0, 1), INVALID);
        due("heat(0, 0)", gala.heat(0, 0), INVALID);
    }

    static void promise01_thereIsNoFinal() {
        GalaHeats gala = new GalaHeats();
        due("count(4)", gala.count(4), 0);
        due("at(-1, 1)", gala.at(-1, 1), INVALID);
        due("heat(-1, 0)", gala.heat(-1, 0), INVALID);
    }

    static void promise01_thereAreNoReservesAndNoneWasCalled() {
        GalaHeats gala = new GalaHeats();
        due("reserve(0)", gala.reserve(0), NONE);
        due("count(5)", gala.count(5), 0);
        due("count(10)", gala.count(10), 0);
    }

    static void promise01_thereAreNoTimes() {
        GalaHeats gala = new GalaHeats();
        due("count(6)", gala.count(6), 0);
        due("mean()", gala.mean(), NONE);
    }

    static void promise01_itIsTheFirstEvent() {
        due("count(7)", new GalaHeats().count(7), 0);
    }

    static void promise01_thereIsNoRecord() {
        GalaHeats gala = new GalaHeats();
        due("count(8)", gala.count(8), NONE);
        due("count(9)", gala.count(9), NONE);
    }

    static void promise01_noClubHasPoints() {
        GalaHeats gala = new GalaHeats();
        due("count(11)", gala.count(11), 0);
        for (int club = 0; club < 6; club++) {
            due("points(" + club + ")", gala.points(club), 0);
        }
    }

    static void promise01_theHistoryIsEmpty() {
        GalaHeats gala = new GalaHeats();
        due("count(12)", gala.count(12), 0);
        due("undo()", gala.undo(), IMPOSSIBLE);
    }

    static void promise01_theTextIsEmpty() {
        GalaHeats gala = new GalaHeats();
        due("count(13)", gala.count(13), 0);
        due("clearText()", gala.clearText(), 0);
    }

    static void promise01_thereAre8LanesAtFirst() {
        due("count(20)", new GalaHeats().count(20), 8);
    }

    static void promise01_theFewestOfAFirstHeatAre3AtFirst() {
        due("count(21)", new GalaHeats().count(21), 3);
    }

    static void promise01_thereAre2ReservesAtFirst() {
        due("count(22)", new GalaHeats().count(22), 2);
    }

    static void promise01_twoObjectsShareNothing() {
        String before = told(new GalaHeats());
        GalaHeats one = inStage(3);
        one.type('d');
        dueSame("another new object", told(new GalaHeats()), before);
    }

    static void promise01_the512thCallIsAnsweredStill() {
        GalaHeats gala = new GalaHeats();
        for (int turn = 0; turn < 170; turn++) {
            due("enter(0, 300)", gala.enter(0, 300), 0);
            due("undo()", gala.undo(), 0);
            due("undo(), once more", gala.undo(), IMPOSSIBLE);
        }
        due("the 511th call", gala.enter(5, 999), 0);
        due("the 512th call", gala.swimmer(0, 1), 999);
    }

    // ---- promise 2: enter

    static void promise02_theClub0IsTheLeast() {
        GalaHeats gala = new GalaHeats();
        due("enter(0, 300)", gala.enter(0, 300), 0);
        due("swimmer(0, 0)", gala.swimmer(0, 0), 0);
    }

    static void promise02_aClubBelow0IsRefused() {
        GalaHeats gala = new GalaHeats();
        due("enter(-1, 300)", gala.enter(-1, 300), INVALID);
        due("enter(MIN, 300)", gala.enter(MIN, 300), INVALID);
    }

    static void promise02_theClub5IsTheGreatest() {
        GalaHeats gala = new GalaHeats();
        due("enter(5, 300)", gala.enter(5, 300), 0);
        due("swimmer(0, 0)", gala.swimmer(0, 0), 5);
    }

    static void promise02_theClub6IsRefused() {
        GalaHeats gala = new GalaHeats();
        due("enter(6, 300)", gala.enter(6, 300), INVALID);
        due("enter(MAX, 300)", gala.enter(MAX, 300), INVALID);
    }

    static void promise02_theEntryTime100IsTheLeast() {
        GalaHeats gala = new GalaHeats();
        due("enter(0, 100)", gala.enter(0, 100), 0);
        due("swimmer(0, 1)", gala.swimmer(0, 1), 100);
    }

    static void promise02_theEntryTime99IsRefused() {
        due("enter(0, 99)", new GalaHeats().enter(0, 99), INVALID);
    }

    static void promise02_theEntryTime999IsTheGreatest() {
        GalaHeats gala = new GalaHeats();
        due("enter(0, 999)", gala.enter(0, 999), 0);
        due("swimmer(0, 1)", gala.swimmer(0, 1), 999);
    }

    static void promise02_theEntryTime1000IsRefused() {
        GalaHeats gala = new GalaHeats();
        due("enter(0, 1000)", gala.enter(0, 1000), INVALID);
        due("enter(0, MAX)", gala.enter(0, MAX), INVALID);
    }

    static void promise02_theEntryTime0IsNone() {
        GalaHeats gala = new GalaHeats();
        due("enter(0, 0)", gala.enter(0, 0), 0);
        due("swimmer(0, 1)", gala.swimmer(0, 1), 0);
    }

    static void promise02_theEntryTime1IsRefused() {
        due("enter(0, 1)", new GalaHeats().enter(0, 1), INVALID);
    }

    static void promise02_anEntryTimeBelow0IsRefused() {
        GalaHeats gala = new GalaHeats();
        due("enter(0, -1)", gala.enter(0, -1), INVALID);
        due("enter(0, -100)", gala.enter(0, -100), INVALID);
        due("enter(0, MIN)", gala.enter(0, MIN), INVALID);
    }

    static void promise02_theNumbersAreFrom0InTheOrderOfComing() {
        GalaHeats gala = new GalaHeats();
        due("enter(3, 500)", gala.enter(3, 500), 0);
        due("enter(1, 300)", gala.enter(1, 300), 1);
        due("enter(2, 400)", gala.enter(2, 400), 2);
        due("swimmer(0, 0)", gala.swimmer(0, 0), 3);
        due("swimmer(1, 0)", gala.swimmer(1, 0), 1);
        due("swimmer(2, 0)", gala.swimmer(2, 0), 2);
    }

    static void promise02_the30thSwimmerIs29() {
        GalaHeats gala = entered(8, rising(29));
        due("enter(4, 777)", gala.enter(4, 777), 29);
        due("swimmer(29, 0)", gala.swimmer(29, 0), 4);
        due("swimmer(29, 1)", gala.swimmer(29, 1), 777);
        due("count(1)", gala.count(1), 30);
    }

    static void promise02_the31stSwimmerIsOverTheLimit() {
        GalaHeats gala = entered(8, rising(30));
        due("enter(0, 300)", gala.enter(0, 300), LIMIT);
        due("count(1)", gala.count(1), 30);
    }

    static void promise02_whoIsScratchedCountsForTheLimit() {
        GalaHeats gala = entered(8, rising(30));
        gala.scratch(0);
        due("enter(0, 300)", gala.enter(0, 300), LIMIT);
    }

    static void promise02_afterAnUndoThereIsRoomForOneAgain() {
        GalaHeats gala = entered(8, rising(30));
        gala.undo();
        due("enter(0, 300)", gala.enter(0, 300), 29);
        due("one more", gala.enter(0, 300), LIMIT);
    }

    static void promise02_nothingIsLeftOfOneWhoHadTheNumberAheadOfAnUndo() {
        GalaHeats gala = withText(new GalaHeats(), "e1,300;x0;e0,300;d;s1,299;f;s1,298;o;");
        due("play()", gala.play(), 8);
        due("undo()", gala.undo(), 0);
        due("enter(2, 400)", gala.enter(2, 400), 0);
        due("enter(3, 0)", gala.enter(3, 0), 1);
        dueSwimmer(gala, 0, 0, 2, 400, 0, NONE, NONE, NONE, NONE, NONE, NONE, NONE, 0, 0);
        dueSwimmer(gala, 1, 0, 3, 0, 1, NONE, NONE, NONE, NONE, NONE, NONE, NONE, 0, 0);
    }

    static void promise02_inTheStage1ItIsNotPossible() {
        due("enter(0, 300)", inStage(1).enter(0, 300), IMPOSSIBLE);
    }

    static void promise02_inTheStage2ItIsNotPossible() {
        due("enter(0, 300)", inStage(2).enter(0, 300), IMPOSSIBLE);
    }

    static void promise02_inTheStage3ItIsNotPossible() {
        due("enter(0, 300)", inStage(3).enter(0, 300), IMPOSSIBLE);
    }

    static void promise02_inTheNextEventItIsPossible() {
        GalaHeats gala = inStage(3);
        gala.next();
        due("enter(0, 300)", gala.enter(0, 300), 5);
    }

    static void promise02_invalidArgumentRatherThanNotPossible() {
        due("enter(6, 300)", inStage(1).enter(6, 300), INVALID);
        due("enter(0, 99)", inStage(2).enter(0, 99), INVALID);
    }

    static void promise02_invalidArgumentRatherThanTheLimit() {
        GalaHeats gala = entered(8, rising(30));
        due("enter(6, 300)", gala.enter(6, 300), INVALID);
        due("enter(0, 99)", gala.enter(0, 99), INVALID);
    }

    static void promise02_notPossibleRatherThanTheLimit() {
        due("enter(0, 300)", drawn(8, rising(30)).enter(0, 300), IMPOSSIBLE);
    }

    static void promise02_aRefusedCallChangesNothing() {
        dueNothingChanged("enter(6, 300)", () -> inStage(0), gala -> gala.enter(6, 300), INVALID);
        dueNothingChanged("enter(0, 99)", GalaHeats::new, gala -> gala.enter(0, 99), INVALID);
        dueNothingChanged("enter(0, 300)", () -> inStage(1), gala -> gala.enter(0, 300), IMPOSSIBLE);
        dueNothingChanged("enter(0, 300)", () -> entered(8, rising(30)), gala -> gala.enter(0, 300), LIMIT);
    }

    static void promise02_itIsAChange() {
        dueOneChange("enter(0, 300)", GalaHeats::new, gala -> gala.enter(0, 300));
        dueOneChange("enter(5, 0)", () -> inStage(0), gala -> gala.enter(5, 0));
    }

    // ---- promise 3: scratch

    /** Lanes 2, 3, 1, 4 for the swimmers 0 to 3; the reserves are 4, 5 and 6; 7 is neither; 8 has the time 0. */
    private static GalaHeats withThreeReserves() {
        return inFinalWithReserves(3, 4, 300, 301, 302, 303, 304, 305, 306, 307, 0);
    }

    static void promise03_theSwimmer0IsTheLeast() {
        GalaHeats gala = inStage(0);
        due("scratch(0)", gala.scratch(0), NOBODY);
        due("swimmer(0, 10)", gala.swimmer(0, 10), 1);
    }

    static void promise03_aSwimmerBelow0IsRefused() {
        GalaHeats gala = inStage(0);
        due("scratch(-1)", gala.scratch(-1), INVALID);
        due("scratch(MIN)", gala.scratch(MIN), INVALID);
    }

    static void promise03_theLastSwimmerIsTheGreatest() {
        GalaHeats gala = inStage(0);
        due("scratch(4)", gala.scratch(4), NOBODY);
        due("swimmer(4, 10)", gala.swimmer(4, 10), 1);
    }

    static void promise03_oneBehindTheLastSwimmerIsRefused() {
        GalaHeats gala = inStage(0);
        due("scratch(5)", gala.scratch(5), INVALID);
        due("scratch(MAX)", gala.scratch(MAX), INVALID);
    }

    static void promise03_theSwimmer29Of30Scratches() {
        GalaHeats gala = entered(8, rising(30));
        due("scratch(29)", gala.scratch(29), NOBODY);
        due("scratch(30)", gala.scratch(30), INVALID);
    }

    static void promise03_withoutSwimmersEachIsRefused() {
        due("scratch(0)", new GalaHeats().scratch(0), INVALID);
    }

    static void promise03_whoScratchesInTheStage0IsNotDrawn() {
        GalaHeats gala = entered(4, 300, 310, 320);
        due("scratch(0)", gala.scratch(0), NOBODY);
        gala.draw();
        dueLanes(gala, 0, NONE, 1, 2, NONE);
        dueSwimmer(gala, 0, 3, NONE, NONE);
    }

    static void promise03_inTheStage1TheLaneStaysFree() {
        GalaHeats gala = drawn(4, 300, 310, 320);
        due("scratch(0)", gala.scratch(0), NOBODY);
        dueLanes(gala, 0, 2, NONE, 1, NONE);
    }

    static void promise03_inTheStage1TheSwimmerIsInNoHeatAnyMore() {
        GalaHeats gala = drawn(4, 300, 310, 320);
        gala.scratch(1);
        dueSwimmer(gala, 1, 3, NONE, NONE);
        due("heat(0, 0)", gala.heat(0, 0), 2);
        due("swim(1, 300)", gala.swim(1, 300), IMPOSSIBLE);
    }

    static void promise03_inTheStage1ATimeOfTheHeatIsGone() {
        GalaHeats gala = drawn(4, 300, 310, 320);
        gala.swim(0, 290);
        gala.swim(1, 295);
        due("scratch(0)", gala.scratch(0), NOBODY);
        dueSwimmer(gala, 0, 5, NONE, NONE);
        due("count(6)", gala.count(6), 1);
        due("one lesser time is left", gala.swim(2, 300), 1);
    }

    static void promise03_inTheStage1TheLastOneOfAHeatLeavesItEmpty() {
        GalaHeats gala = drawn(4, 300);
        due("scratch(0)", gala.scratch(0), NOBODY);
        due("count(3)", gala.count(3), 1);
        dueLanes(gala, 0, NONE, NONE, NONE, NONE);
    }

    static void promise03_inTheStage2TheFirstReserveGetsTheLane() {
        GalaHeats gala = withThreeReserves();
        due("scratch(1)", gala.scratch(1), 4);
        dueLanes(gala, -1, 2, 0, 4, 3);
        due("swimmer(4, 7)", gala.swimmer(4, 7), 3);
        due("count(4)", gala.count(4), 1 | 1 << 2 | 1 << 3 | 1 << 4);
    }

    static void promise03_inTheStage2TheSecondLaneIsOfTheSecondReserve() {
        GalaHeats gala = withThreeReserves();
        due("scratch(1)", gala.scratch(1), 4);
        due("scratch(3)", gala.scratch(3), 5);
        dueLanes(gala, -1, 2, 0, 4, 5);
    }

    static void promise03_aReserveWhoScratchesIsNotCalled() {
        GalaHeats gala = withThreeReserves();
        due("scratch(4)", gala.scratch(4), NOBODY);
        due("scratch(0)", gala.scratch(0), 5);
    }

    static void promise03_aReserveInTheMiddleWhoScratchesIsNotCalled() {
        GalaHeats gala = withThreeReserves();
        due("scratch(5)", gala.scratch(5), NOBODY);
        due("scratch(0)", gala.scratch(0), 4);
        due("scratch(1)", gala.scratch(1), 6);
    }

    static void promise03_whoWasCalledIsInTheFinalWithoutATime() {
        GalaHeats gala = withThreeReserves();
        gala.swim(0, 290);
        due("scratch(0)", gala.scratch(0), 4);
        due("swimmer(4, 8)", gala.swimmer(4, 8), NONE);
        due("why()", gala.why(), 2);
        due("swim(4, 300)", gala.swim(4, 300), 0);
    }

    static void promise03_forOneWhoWasCalledTheNextReserveIsCalled() {
        GalaHeats gala = withThreeReserves();
        due("scratch(1)", gala.scratch(1), 4);
        due("scratch(4)", gala.scratch(4), 5);
        due("scratch(5)", gala.scratch(5), 6);
        dueLanes(gala, -1, 2, 0, 6, 3);
    }

    static void promise03_withoutAReserveTheLaneStaysFree() {
        GalaHeats gala = withThreeReserves();
        due("scratch(0)", gala.scratch(0), 4);
        due("scratch(1)", gala.scratch(1), 5);
        due("scratch(2)", gala.scratch(2), 6);
        due("scratch(3), nobody is left", gala.scratch(3), NOBODY);
        dueLanes(gala, -1, 6, 4, 5, NONE);
        due("count(10)", gala.count(10), 3);
    }

    static void promise03_withTheSetting2At0NobodyIsCalled() {
        GalaHeats gala = inFinalWithReserves(0, 4, 300, 310, 320, 330, 340);
        due("scratch(0)", gala.scratch(0), NOBODY);
        dueLanes(gala, -1, 2, NONE, 1, 3);
    }

    static void promise03_inTheStage2ATimeOfTheFinalIsGone() {
        GalaHeats gala = withThreeReserves();
        gala.swim(1, 280);
        gala.scratch(1);
        dueSwimmer(gala, 1, 7, NONE, NONE);
        due("no lesser time is left", gala.swim(0, 290), 0);
    }

    static void promise03_inTheStage2TheHeatAndItsTimeStay() {
        GalaHeats gala = withThreeReserves();
        int heat = gala.swimmer(1, 3);
        int lane = gala.swimmer(1, 4);
        gala.scratch(1);
        dueSwimmer(gala, 1, 3, heat, lane, 301, 1);
        due("at", gala.at(heat, lane), 1);
    }

    static void promise03_inTheStage2OneWhoIsNeitherInTheFinalNorAReserveFreesNoLane() {
        GalaHeats gala = withThreeReserves();
        due("scratch(7)", gala.scratch(7), NOBODY);
        due("scratch(8), who had no time", gala.scratch(8), NOBODY);
        dueLanes(gala, -1, 2, 0, 1, 3);
        due("count(5)", gala.count(5), 3);
    }

    static void promise03_aSecondTimeInTheStage0IsNotPossible() {
        GalaHeats gala = inStage(0);
        gala.scratch(1);
        due("scratch(1)", gala.scratch(1), IMPOSSIBLE);
    }

    static void promise03_aSecondTimeInTheStage1IsNotPossible() {
        GalaHeats gala = inStage(0);
        gala.scratch(1);
        gala.draw();
        gala.scratch(2);
        due("scratch(1)", gala.scratch(1), IMPOSSIBLE);
        due("scratch(2)", gala.scratch(2), IMPOSSIBLE);
    }

    static void promise03_aSecondTimeInTheStage2IsNotPossible() {
        GalaHeats gala = inStage(2);
        gala.scratch(0);
        due("scratch(0)", gala.scratch(0), IMPOSSIBLE);
        due("nobody more is called", gala.count(10), 1);
    }

    static void promise03_inTheStage3NobodyScratches() {
        GalaHeats gala = inStage(3);
        for (int number = 0; number < 5; number++) {
            due("scratch(" + number + ")", gala.scratch(number), IMPOSSIBLE);
        }
    }

    static void promise03_inTheNextEventWhoWasScratchedCanScratchAgain() {
        GalaHeats gala = inStage(2);
        gala.scratch(0);
        swimAll(gala, -1, 310, 320, 330, 340);
        gala.end();
        gala.next();
        due("scratch(0)", gala.scratch(0), NOBODY);
    }

    static void promise03_invalidArgumentRatherThanNotPossible() {
        GalaHeats gala = inStage(3);
        due("scratch(-1)", gala.scratch(-1), INVALID);
        due("scratch(5)", gala.scratch(5), INVALID);
    }

    static void promise03_aRefusedCallChangesNothing() {
        dueNothingChanged("scratch(5)", () -> inStage(0), gala -> gala.scratch(5), INVALID);
        dueNothingChanged("scratch(-1)", () -> inStage(2), gala -> gala.scratch(-1), INVALID);
        dueNothingChanged("scratch(0)", () -> inStage(3), gala -> gala.scratch(0), IMPOSSIBLE);
        dueNothingChanged("scratch(0) again", () -> {
            GalaHeats gala = inStage(2);
            gala.scratch(0);
            return gala;
        }, gala -> gala.scratch(0), IMPOSSIBLE);
    }

    static void promise03_itIsAChange() {
        dueOneChange("in the stage 0", () -> inStage(0), gala -> gala.scratch(2));
        dueOneChange("in the stage 1", () -> inStage(1), gala -> gala.scratch(2));
        dueOneChange("in the stage 2, of the final", () -> inStage(2), gala -> gala.scratch(2));
        dueOneChange("in the stage 2, a reserve", () -> inStage(2), gala -> gala.scratch(4));
    }

    // ---- promise 4: set

    private static void dueSet(int what, int value) {
        GalaHeats gala = new GalaHeats();
        int[] first = {8, 3, 2};
        due("set(" + what + ", " + value + ")", gala.set(what, value), first[what]);
        for (int each = 0; each < 3; each++) {
            due("count(" + (20 + each) + ")", gala.count(20 + each), each == what ? value : first[each]);
        }
    }

    private static void dueNotSet(int what, int value) {
        due("set(" + what + ", " + value + ")", new GalaHeats().set(what, value), INVALID);
    }

    static void promise04_4LanesAreTheFewest() {
        dueSet(0, 4);
    }

    static void promise04_3LanesAreRefused() {
        dueNotSet(0, 3);
        dueNotSet(0, MIN);
    }

    static void promise04_10LanesAreTheMost() {
        dueSet(0, 10);
    }

    static void promise04_11LanesAreRefused() {
        dueNotSet(0, 11);
        dueNotSet(0, MAX);
    }

    static void promise04_aFirstHeatOf1IsTheLeast() {
        dueSet(1, 1);
    }

    static void promise04_aFirstHeatOf0IsRefused() {
        dueNotSet(1, 0);
        dueNotSet(1, MIN);
    }

    static void promise04_aFirstHeatOf3IsTheGreatest() {
        dueSet(1, 3);
    }

    static void promise04_aFirstHeatOf4IsRefused() {
        dueNotSet(1, 4);
        dueNotSet(1, MAX);
    }

    static void promise04_0ReservesAreTheFewest() {
        dueSet(2, 0);
    }

    static void promise04_reservesBelow0AreRefused() {
        dueNotSet(2, -1);
        dueNotSet(2, MIN);
    }

    static void promise04_4ReservesAreTheMost() {
        dueSet(2, 4);
    }

    static void promise04_5ReservesAreRefused() {
        dueNotSet(2, 5);
        dueNotSet(2, MAX);
    }

    static void promise04_aWhatBelow0IsRefused() {
        for (int value = -1; value <= 11; value++) {
            dueNotSet(-1, value);
            dueNotSet(MIN, value);
        }
    }

    static void promise04_theWhat3IsRefused() {
        for (int value = -1; value <= 11; value++) {
            dueNotSet(3, value);
            dueNotSet(MAX, value);
        }
    }

    static void promise04_itReturnsWhatItWas() {
        GalaHeats gala = new GalaHeats();
        due("set(0, 10)", gala.set(0, 10), 8);
        due("set(0, 4)", gala.set(0, 4), 10);
        due("set(1, 1)", gala.set(1, 1), 3);
        due("set(1, 2)", gala.set(1, 2), 1);
        due("set(2, 0)", gala.set(2, 0), 2);
        due("set(2, 3)", gala.set(2, 3), 0);
        due("set(2, 3) again", gala.set(2, 3), 3);
    }

    static void promise04_inTheStage1ItIsNotPossible() {
        due("set(0, 8)", inStage(1).set(0, 8), IMPOSSIBLE);
    }

    static void promise04_inTheStage2ItIsNotPossible() {
        due("set(1, 2)", inStage(2).set(1, 2), IMPOSSIBLE);
    }

    static void promise04_inTheStage3ItIsNotPossible() {
        due("set(2, 2)", inStage(3).set(2, 2), IMPOSSIBLE);
    }

    static void promise04_inTheNextEventItIsPossible() {
        GalaHeats gala = inStage(3);
        gala.next();
        due("set(0, 10)", gala.set(0, 10), 4);
    }

    static void promise04_invalidArgumentRatherThanNotPossible() {
        for (int stage = 1; stage <= 3; stage++) {
            due("set(0, 11)", inStage(stage).set(0, 11), INVALID);
            due("set(3, 2)", inStage(stage).set(3, 2), INVALID);
        }
    }

    static void promise04_aRefusedCallChangesNothing() {
        dueNothingChanged("set(0, 11)", () -> inStage(0), gala -> gala.set(0, 11), INVALID);
        dueNothingChanged("set(3, 2)", GalaHeats::new, gala -> gala.set(3, 2), INVALID);
        dueNothingChanged("set(0, 5)", () -> inStage(1), gala -> gala.set(0, 5), IMPOSSIBLE);
        dueNothingChanged("set(2, 0)", () -> inStage(2), gala -> gala.set(2, 0), IMPOSSIBLE);
    }

    static void promise04_itIsAChange() {
        dueOneChange("set(0, 5)", () -> inStage(0), gala -> gala.set(0, 5));
        dueOneChange("set(1, 1)", GalaHeats::new, gala -> gala.set(1, 1));
        dueOneChange("set(2, 0)", GalaHeats::new, gala -> gala.set(2, 0));
    }

    static void promise04_theValueThatItHasIsAChangeToo() {
        dueOneChange("set(0, 8)", GalaHeats::new, gala -> gala.set(0, 8));
    }
}
