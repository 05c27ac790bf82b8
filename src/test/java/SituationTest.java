/** Promises 10 to 14: swimmer, at, heat, reserve, points. */
public final class SituationTest extends Checks {
    public static void main(String[] args) {
        runCases(SituationTest.class, 10, 14);
    }

    // ---- promise 10: swimmer

    static void promise10_theSwimmer0IsTheLeast() {
        due("swimmer(0, 1)", inStage(0).swimmer(0, 1), 300);
    }

    static void promise10_aSwimmerBelow0IsRefused() {
        due("swimmer(-1, 0)", inStage(0).swimmer(-1, 0), INVALID);
        due("swimmer(MIN, 0)", inStage(0).swimmer(MIN, 0), INVALID);
    }

    static void promise10_theLastSwimmerIsTheGreatest() {
        due("swimmer(4, 1)", inStage(0).swimmer(4, 1), 340);
    }

    static void promise10_oneBehindTheLastSwimmerIsRefused() {
        due("swimmer(5, 0)", inStage(0).swimmer(5, 0), INVALID);
        due("swimmer(MAX, 0)", inStage(0).swimmer(MAX, 0), INVALID);
    }

    static void promise10_theSwimmer29Of30IsThere() {
        GalaHeats gala = entered(8, rising(30));
        due("swimmer(29, 1)", gala.swimmer(29, 1), 229);
        due("swimmer(30, 1)", gala.swimmer(30, 1), INVALID);
    }

    static void promise10_theWhat0IsTheLeast() {
        due("swimmer(3, 0)", inStage(0).swimmer(3, 0), 3);
    }

    static void promise10_aWhatBelow0IsRefused() {
        due("swimmer(0, -1)", inStage(3).swimmer(0, -1), INVALID);
        due("swimmer(0, MIN)", inStage(3).swimmer(0, MIN), INVALID);
    }

    static void promise10_theWhat11IsTheGreatest() {
        due("swimmer(0, 11)", inStage(3).swimmer(0, 11), 10);
    }

    static void promise10_theWhat12IsRefused() {
        due("swimmer(0, 12)", inStage(3).swimmer(0, 12), INVALID);
        due("swimmer(0, MAX)", inStage(3).swimmer(0, MAX), INVALID);
    }

    static void promise10_theEntryTimeIs0Without() {
        due("swimmer(0, 1)", entered(4, 0).swimmer(0, 1), 0);
    }

    static void promise10_theRankByEntryIsOfTheLesserTimesFirst() {
        GalaHeats gala = entered(4, 999, 100, 500);
        due("swimmer(0, 2)", gala.swimmer(0, 2), 2);
        due("swimmer(1, 2)", gala.swimmer(1, 2), 0);
        due("swimmer(2, 2)", gala.swimmer(2, 2), 1);
    }

    static void promise10_theRankByEntryWithoutATimeIsBehindAllOthers() {
        GalaHeats gala = entered(4, 0, 999, 0);
        due("swimmer(0, 2)", gala.swimmer(0, 2), 1);
        due("swimmer(1, 2)", gala.swimmer(1, 2), 0);
        due("swimmer(2, 2)", gala.swimmer(2, 2), 2);
    }

    static void promise10_theRankByEntryOfTheSameTimeIsOfTheLowestNumberFirst() {
        GalaHeats gala = entered(4, 400, 300, 400, 400);
        due("swimmer(0, 2)", gala.swimmer(0, 2), 1);
        due("swimmer(2, 2)", gala.swimmer(2, 2), 2);
        due("swimmer(3, 2)", gala.swimmer(3, 2), 3);
    }

    static void promise10_theRankByEntryGoesUpTo29() {
        GalaHeats gala = entered(8, falling(30));
        due("swimmer(0, 2)", gala.swimmer(0, 2), 29);
        due("swimmer(29, 2)", gala.swimmer(29, 2), 0);
    }

    static void promise10_theRankByEntryIsAmongThoseWhoAreNotScratchedNow() {
        GalaHeats gala = inStage(0);
        gala.scratch(0);
        due("in the stage 0", gala.swimmer(4, 2), 3);
        gala.draw();
        gala.scratch(1);
        due("in the stage 1", gala.swimmer(4, 2), 2);
        swimAll(gala, -1, -1, 320, 330, 340);
        gala.finals();
        gala.scratch(2);
        due("in the stage 2", gala.swimmer(4, 2), 1);
    }

    static void promise10_thereIsNoRankByEntryIfScratched() {
        for (int stage = 0; stage <= 2; stage++) {
            GalaHeats gala = inStage(stage);
            gala.scratch(1);
            due("in the stage " + stage, gala.swimmer(1, 2), NONE);
        }
    }

    static void promise10_thereIsNoHeatAndNoLaneInTheStage0() {
        dueSwimmer(inStage(0), 0, 3, NONE, NONE);
    }

    static void promise10_thereIsNoHeatAndNoLaneOfOneWhoScratchedInTheStage0() {
        GalaHeats gala = inStage(0);
        gala.scratch(0);
        gala.draw();
        dueSwimmer(gala, 0, 3, NONE, NONE);
    }

    static void promise10_thereIsNoHeatAndNoLaneOfOneWhoScratchedInTheStage1() {
        GalaHeats gala = inStage(1);
        gala.scratch(0);
        dueSwimmer(gala, 0, 3, NONE, NONE);
    }

    static void promise10_theHeatAndTheLaneAreToldFromTheStage1On() {
        for (int stage = 1; stage <= 3; stage++) {
            dueSwimmer(inStage(stage), 0, 3, 1, 2);
            dueSwimmer(inStage(stage), 4, 3, 1, 1);
            dueSwimmer(inStage(stage), 1, 3, 0, 2);
            dueSwimmer(inStage(stage), 3, 3, 0, 3);
        }
    }

    static void promise10_thereIsNoTimeOfTheHeatIfNotSwum() {
        GalaHeats gala = inStage(1);
        due("swimmer(0, 5)", gala.swimmer(0, 5), NONE);
    }

    static void promise10_theTime0OfTheHeatIsTold() {
        GalaHeats gala = inStage(1);
        gala.swim(0, 0);
        due("swimmer(0, 5)", gala.swimmer(0, 5), 0);
    }

    static void promise10_thereIsNoRankByTimesWithoutATime() {
        GalaHeats gala = inStage(1);
        gala.swim(1, 300);
        due("swimmer(0, 6)", gala.swimmer(0, 6), NONE);
        due("in the stage 0", inStage(0).swimmer(0, 6), NONE);
    }

    static void promise10_thereIsNoRankByTimesWithTheTime0() {
        GalaHeats gala = inStage(1);
        gala.swim(0, 0);
        due("swimmer(0, 6)", gala.swimmer(0, 6), NONE);
    }

    static void promise10_theRankByTimesIsTheOneAmongThoseWhoHaveSwumByNow() {
        GalaHeats gala = inStage(1);
        gala.swim(4, 340);
        due("alone", gala.swimmer(4, 6), 0);
        gala.swim(3, 0);
        due("0 is no time", gala.swimmer(4, 6), 0);
        gala.swim(2, 320);
        due("behind one", gala.swimmer(4, 6), 1);
    }

    static void promise10_theRankByTimesOfTheSameTimeIsByEntry() {
        GalaHeats gala = drawn(4, 320, 310, 0, 300, 300, 330);
        swimAll(gala, 400, 400, 400, 400, 400, 399);
        int[] ranks = {4, 3, 5, 1, 2, 0};
        for (int number = 0; number < 6; number++) {
            due("swimmer(" + number + ", 6)", gala.swimmer(number, 6), ranks[number]);
        }
    }

    static void promise10_theRankByTimesIsToldAlsoOfOneWhoScratchedInTheStage2() {
        GalaHeats gala = inStage(2);
        gala.scratch(1);
        due("swimmer(1, 6)", gala.swimmer(1, 6), 1);
    }

    static void promise10_theRankByTimesIsAlsoAmongThoseWhoScratchedInTheStage2() {
        GalaHeats gala = inStage(2);
        gala.scratch(0);
        gala.scratch(1);
        due("swimmer(2, 6)", gala.swimmer(2, 6), 2);
        due("a reserve", gala.swimmer(4, 6), 4);
    }

    static void promise10_theRankByTimesIsNotAmongThoseWhoScratchedInTheStage1() {
        GalaHeats gala = swum(4, 300, 310, 320);
        gala.scratch(0);
        due("swimmer(2, 6)", gala.swimmer(2, 6), 1);
        due("swimmer(0, 6)", gala.swimmer(0, 6), NONE);
    }

    static void promise10_thereIsNoLaneOfTheFinalAheadOfTheStage2() {
        due("in the stage 0", inStage(0).swimmer(0, 7), NONE);
        due("in the stage 1", swum(4, 300, 310).swimmer(0, 7), NONE);
    }

    static void promise10_theLaneOfTheFinalIsToldFromTheStage2On() {
        for (int stage = 2; stage <= 3; stage++) {
            int[] lanes = {2, 3, 1, 4};
            for (int number = 0; number < 4; number++) {
                due("swimmer(" + number + ", 7)", inStage(stage).swimmer(number, 7), lanes[number]);
            }
        }
    }

    static void promise10_thereIsNoLaneOfTheFinalOfAReserve() {
        due("swimmer(4, 7)", inStage(2).swimmer(4, 7), NONE);
    }

    static void promise10_theLaneOfTheFinalGoesToTheReserveWhoIsCalled() {
        GalaHeats gala = inStage(2);
        gala.scratch(3);
        due("swimmer(3, 7)", gala.swimmer(3, 7), NONE);
        due("swimmer(4, 7)", gala.swimmer(4, 7), 4);
    }

    static void promise10_thereIsNoTimeOfTheFinalIfNotSwum() {
        due("swimmer(0, 8)", inStage(2).swimmer(0, 8), NONE);
        due("of a reserve", inStage(3).swimmer(4, 8), NONE);
        due("in the stage 1", swum(4, 300).swimmer(0, 8), NONE);
    }

    static void promise10_theTime0OfTheFinalIsTold() {
        GalaHeats gala = inStage(2);
        gala.swim(0, 0);
        due("swimmer(0, 8)", gala.swimmer(0, 8), 0);
    }

    static void promise10_thereIsNoPlaceAheadOfTheEnd() {
        GalaHeats gala = inStage(2);
        swimAll(gala, 300, 310, 320, 330);
        due("swimmer(0, 9)", gala.swimmer(0, 9), NONE);
    }

    static void promise10_thereIsNoPlaceWithTheTime0() {
        GalaHeats gala = inStage(2);
        swimAll(gala, 300, 0, 320, 330);
        gala.end();
        due("swimmer(1, 9)", gala.swimmer(1, 9), NONE);
    }

    static void promise10_thereIsNoPlaceOfOneWhoIsNotInTheFinal() {
        due("swimmer(4, 9)", inStage(3).swimmer(4, 9), NONE);
    }

    static void promise10_thePlaceIsToldInTheStage3() {
        GalaHeats gala = inStage(3);
        for (int number = 0; number < 4; number++) {
            due("swimmer(" + number + ", 9)", gala.swimmer(number, 9), number + 1);
        }
    }

    static void promise10_scratchedIs1OtherwiseItIs0() {
        for (int stage = 0; stage <= 2; stage++) {
            GalaHeats gala = inStage(stage);
            gala.scratch(1);
            due("swimmer(0, 10)", gala.swimmer(0, 10), 0);
            due("swimmer(1, 10)", gala.swimmer(1, 10), 1);
        }
    }

    static void promise10_halfPointsAre0AheadOfTheEnd() {
        GalaHeats gala = inStage(2);
        swimAll(gala, 300, 310, 320, 330);
        due("swimmer(0, 11)", gala.swimmer(0, 11), 0);
    }

    static void promise10_halfPointsAreOfAllEventsSoFar() {
        GalaHeats gala = inStage(3);
        gala.next();
        due("swimmer(0, 11)", gala.swimmer(0, 11), 10);
        gala.draw();
        swimAll(gala, 300, 310, 320, 330, 340);
        gala.finals();
        swimAll(gala, 300, 310, 320, 330);
        gala.end();
        due("swimmer(0, 11)", gala.swimmer(0, 11), 20);
        due("swimmer(3, 11)", gala.swimmer(3, 11), 4);
        due("swimmer(4, 11)", gala.swimmer(4, 11), 0);
    }

    static void promise10_invalidArgumentRatherThanNotFound() {
        GalaHeats gala = inStage(0);
        for (int what = 2; what <= 9; what++) {
            due("swimmer(5, " + what + ")", gala.swimmer(5, what), INVALID);
            due("swimmer(-1, " + what + ")", gala.swimmer(-1, what), INVALID);
        }
        gala.scratch(0);
        due("swimmer(0, 12)", gala.swimmer(0, 12), INVALID);
    }

    static void promise10_itIsNoChange() {
        for (int what = 0; what < 12; what++) {
            int itsWhat = what;
            dueNoChange("swimmer(0, " + what + ")", () -> inStage(3), gala -> gala.swimmer(0, itsWhat));
        }
    }

    // ---- promise 11: at

    static void promise11_theHeat0IsTheLeast() {
        dueLanes(inStage(1), 0, NONE, 1, 3, NONE);
    }

    static void promise11_theLastHeatIsTheGreatest() {
        dueLanes(inStage(1), 1, 4, 0, 2, NONE);
    }

    static void promise11_oneBehindTheLastHeatIsRefused() {
        due("at(2, 1)", inStage(1).at(2, 1), INVALID);
        due("at(MAX, 1)", inStage(1).at(MAX, 1), INVALID);
    }

    static void promise11_theHeatBelowTheFinalIsRefused() {
        for (int stage = 0; stage <= 3; stage++) {
            due("at(-2, 1)", inStage(stage).at(-2, 1), INVALID);
            due("at(MIN, 1)", inStage(stage).at(MIN, 1), INVALID);
        }
    }

    static void promise11_thereAreNoHeatsInTheStage0() {
        due("at(0, 1)", inStage(0).at(0, 1), INVALID);
        due("at(0, 2)", inStage(0).at(0, 2), INVALID);
    }

    static void promise11_thereAreNoHeatsInTheNextEvent() {
        GalaHeats gala = inStage(3);
        due("at(0, 2)", gala.at(0, 2), 1);
        gala.next();
        due("at(0, 2)", gala.at(0, 2), INVALID);
    }

    static void promise11_theHeatsAreToldUpToTheStage3() {
        for (int stage = 1; stage <= 3; stage++) {
            due("at(1, 1)", inStage(stage).at(1, 1), 4);
        }
    }

    static void promise11_thereIsNoFinalInTheStage0() {
        due("at(-1, 2)", inStage(0).at(-1, 2), INVALID);
    }

    static void promise11_thereIsNoFinalInTheStage1() {
        due("at(-1, 2)", swum(4, 300, 310).at(-1, 2), INVALID);
    }

    static void promise11_theFinalIsToldInTheStages2And3() {
        dueLanes(inStage(2), -1, 2, 0, 1, 3);
        dueLanes(inStage(3), -1, 2, 0, 1, 3);
    }

    static void promise11_thereIsNoFinalInTheNextEvent() {
        GalaHeats gala = inStage(3);
        gala.next();
        due("at(-1, 2)", gala.at(-1, 2), INVALID);
    }

    static void promise11_theLane1IsTheLeast() {
        due("at(1, 1)", inStage(1).at(1, 1), 4);
        due("at(-1, 1)", inStage(2).at(-1, 1), 2);
    }

    static void promise11_theLane0IsRefused() {
        due("at(1, 0)", inStage(1).at(1, 0), INVALID);
        due("at(-1, 0)", inStage(2).at(-1, 0), INVALID);
        due("at(1, MIN)", inStage(1).at(1, MIN), INVALID);
    }

    static void promise11_theLaneOfSetting0IsTheGreatest() {
        due("4 lanes", swum(4, 300, 310, 320, 330).at(0, 4), 3);
        due("the final", inStage(2).at(-1, 4), 3);
        due("10 lanes", drawn(10, rising(10)).at(0, 10), 9);
    }

    static void promise11_theLaneBehindSetting0IsRefused() {
        due("4 lanes", swum(4, 300, 310, 320, 330).at(0, 5), INVALID);
        due("the final", inStage(2).at(-1, 5), INVALID);
        due("10 lanes", drawn(10, rising(10)).at(0, 11), INVALID);
        due("at(0, MAX)", inStage(1).at(0, MAX), INVALID);
    }

    static void promise11_aLaneThatNobodyGotIsFree() {
        due("at(1, 4)", inStage(1).at(1, 4), NONE);
        due("the final", inFinal(4, 300).at(-1, 1), NONE);
    }

    static void promise11_theLaneOfOneWhoScratchedInTheStage1IsFree() {
        GalaHeats gala = inStage(1);
        gala.scratch(0);
        due("at(1, 2)", gala.at(1, 2), NONE);
    }

    static void promise11_theLaneOfTheFinalIsFreeIfNobodyIsCalled() {
        GalaHeats gala = inFinal(4, 300, 310);
        gala.scratch(0);
        due("at(-1, 2)", gala.at(-1, 2), NONE);
    }

    static void promise11_theLaneOfTheHeatStaysOfOneWhoScratchedInTheStage2() {
        GalaHeats gala = inStage(2);
        gala.scratch(0);
        due("at(1, 2)", gala.at(1, 2), 0);
        due("at(-1, 2)", gala.at(-1, 2), 4);
    }

    static void promise11_invalidArgumentRatherThanNotFound() {
        due("the heat, and a lane that is free", inStage(1).at(2, 4), INVALID);
        due("the lane, of a heat that is empty", emptied().at(0, 5), INVALID);
    }

    private static GalaHeats emptied() {
        GalaHeats gala = drawn(4, 0);
        gala.scratch(0);
        return gala;
    }

    static void promise11_itIsNoChange() {
        dueNoChange("at(0, 2)", () -> inStage(1), gala -> gala.at(0, 2));
        dueNoChange("at(-1, 2)", () -> inStage(2), gala -> gala.at(-1, 2));
    }

    // ---- promise 12: heat

    private static void dueHeat(GalaHeats gala, int heat, int... values) {
        for (int what = 0; what < 5; what++) {
            due("heat(" + heat + ", " + what + ")", gala.heat(heat, what), values[what]);
        }
    }

    static void promise12_theHeat0IsTheLeast() {
        dueHeat(swum(4, 300, 310, 320, 330, 340), 0, 2, 2, 310, 330, 310);
    }

    static void promise12_theLastHeatIsTheGreatest() {
        dueHeat(swum(4, 300, 310, 320, 330, 340), 1, 3, 3, 300, 340, 300);
    }

    static void promise12_oneBehindTheLastHeatIsRefused() {
        due("heat(2, 0)", inStage(1).heat(2, 0), INVALID);
        due("heat(MAX, 0)", inStage(1).heat(MAX, 0), INVALID);
    }

    static void promise12_theHeatBelowTheFinalIsRefused() {
        for (int stage = 0; stage <= 3; stage++) {
            due("heat(-2, 0)", inStage(stage).heat(-2, 0), INVALID);
            due("heat(MIN, 0)", inStage(stage).heat(MIN, 0), INVALID);
        }
    }

    static void promise12_thereAreNoHeatsInTheStage0() {
        due("heat(0, 0)", inStage(0).heat(0, 0), INVALID);
        GalaHeats gala = inStage(3);
        gala.next();
        due("of the next event", gala.heat(0, 0), INVALID);
    }

    static void promise12_thereIsNoFinalInTheStages0And1() {
        due("in the stage 0", inStage(0).heat(-1, 0), INVALID);
        due("in the stage 1", swum(4, 300).heat(-1, 0), INVALID);
        GalaHeats gala = inStage(3);
        gala.next();
        due("in the next event", gala.heat(-1, 0), INVALID);
    }

    static void promise12_theFinalIsToldInTheStages2And3() {
        dueHeat(inStage(2), -1, 4, 0, 300, 330, NONE);
        dueHeat(inStage(3), -1, 4, 4, 300, 330, 300);
    }

    static void promise12_aWhatBelow0IsRefused() {
        due("heat(0, -1)", inStage(1).heat(0, -1), INVALID);
        due("heat(-1, MIN)", inStage(2).heat(-1, MIN), INVALID);
    }

    static void promise12_theWhat5IsRefused() {
        due("heat(0, 5)", inStage(1).heat(0, 5), INVALID);
        due("heat(-1, 5)", inStage(2).heat(-1, 5), INVALID);
        due("heat(0, MAX)", inStage(1).heat(0, MAX), INVALID);
    }

    static void promise12_aFullHeatHasAsManyAsLanes() {
        due("4 lanes", drawn(4, rising(4)).heat(0, 0), 4);
        due("10 lanes", drawn(10, rising(10)).heat(0, 0), 10);
    }

    static void promise12_of30SwimmersEachHeatIsTold() {
        dueHeat(drawn(10, rising(30)), 2, 10, 0, 200, 227, NONE);
        dueHeat(drawn(4, rising(30)), 0, 3, 0, 227, 229, NONE);
        dueHeat(swum(4, falling(30)), 7, 4, 4, 371, 380, 371);
        dueHeat(inFinal(4, falling(30)), -1, 4, 0, 371, 374, NONE);
    }

    static void promise12_aHeatThatAllHaveLeftHas0() {
        dueHeat(emptied(), 0, 0, 0, NONE, NONE, NONE);
    }

    static void promise12_theFinalWithoutAnybodyHas0() {
        GalaHeats gala = inFinal(4, 300);
        gala.scratch(0);
        dueHeat(gala, -1, 0, 0, NONE, NONE, NONE);
    }

    static void promise12_whoScratchedInTheStage1IsNotInIt() {
        GalaHeats gala = swum(4, 300, 310, 320);
        gala.scratch(0);
        dueHeat(gala, 0, 2, 2, 310, 320, 310);
        gala.scratch(2);
        dueHeat(gala, 0, 1, 1, 310, 310, 310);
    }

    static void promise12_whoScratchedInTheStage2IsInTheHeatAndNotInTheFinal() {
        GalaHeats gala = inStage(2);
        gala.swim(0, 290);
        gala.scratch(0);
        dueHeat(gala, 1, 3, 3, 300, 340, 300);
        dueHeat(gala, -1, 4, 0, 310, 340, NONE);
    }

    static void promise12_whoSwamTheTime0HasSwum() {
        GalaHeats gala = inStage(1);
        due("heat(1, 1)", gala.heat(1, 1), 0);
        gala.swim(0, 0);
        due("heat(1, 1)", gala.heat(1, 1), 1);
        due("of the other heat", gala.heat(0, 1), 0);
    }

    static void promise12_whoSwamAgainHasSwumOnce() {
        GalaHeats gala = inStage(1);
        gala.swim(0, 300);
        gala.swim(0, 301);
        due("heat(1, 1)", gala.heat(1, 1), 1);
    }

    static void promise12_inTheFinalTheTimesOfTheFinalAreSwum() {
        GalaHeats gala = inStage(2);
        gala.swim(1, 350);
        gala.swim(2, 0);
        dueHeat(gala, -1, 4, 2, 300, 330, 350);
    }

    static void promise12_withoutEntryTimesThereIsNoLeastAndNoGreatest() {
        dueHeat(drawn(4, 0, 0), 0, 2, 0, NONE, NONE, NONE);
    }

    static void promise12_oneEntryTimeIsTheLeastAndTheGreatest() {
        dueHeat(drawn(4, 0, 999, 0), 0, 3, 0, 999, 999, NONE);
        dueHeat(drawn(4, 100, 0), 0, 2, 0, 100, 100, NONE);
    }

    static void promise12_withoutTimesThereIsNoLeastOne() {
        due("heat(0, 4)", inStage(1).heat(0, 4), NONE);
        due("heat(-1, 4)", inStage(2).heat(-1, 4), NONE);
    }

    static void promise12_withTheTime0AloneThereIsNoLeastOne() {
        GalaHeats gala = inStage(1);
        gala.swim(1, 0);
        gala.swim(3, 0);
        due("heat(0, 4)", gala.heat(0, 4), NONE);
    }

    static void promise12_theTime0IsNotTheLeastOne() {
        GalaHeats gala = inStage(1);
        gala.swim(1, 0);
        gala.swim(3, 999);
        due("heat(0, 4)", gala.heat(0, 4), 999);
        gala.swim(1, 100);
        due("heat(0, 4)", gala.heat(0, 4), 100);
    }

    static void promise12_theLeastTimeIsOfThisHeat() {
        GalaHeats gala = inStage(1);
        gala.swim(0, 200);
        due("heat(0, 4)", gala.heat(0, 4), NONE);
        gala.swim(1, 400);
        due("heat(0, 4)", gala.heat(0, 4), 400);
        due("heat(1, 4)", gala.heat(1, 4), 200);
    }

    static void promise12_invalidArgumentRatherThanNotFound() {
        due("the heat", inStage(1).heat(2, 4), INVALID);
        due("no final yet", inStage(1).heat(-1, 4), INVALID);
        due("the what, of a heat that is empty", emptied().heat(0, 5), INVALID);
    }

    static void promise12_itIsNoChange() {
        for (int what = 0; what < 5; what++) {
            int itsWhat = what;
            dueNoChange("heat(0, " + what + ")", () -> inStage(3), gala -> gala.heat(0, itsWhat));
            dueNoChange("heat(-1, " + what + ")", () -> inStage(3), gala -> gala.heat(-1, itsWhat));
        }
    }

    // ---- promise 13: reserve

    private static GalaHeats withFourReserves() {
        return inFinalWithReserves(4, 4, 300, 310, 320, 330, 364, 363, 362, 361, 380);
    }

    private static void dueReserves(GalaHeats gala, int... numbers) {
        for (int rank = 0; rank < numbers.length; rank++) {
            due("reserve(" + rank + ")", gala.reserve(rank), numbers[rank]);
        }
        due("reserve(" + numbers.length + ")", gala.reserve(numbers.length), NONE);
        due("count(5)", gala.count(5), numbers.length);
    }

    static void promise13_theRank0IsTheFirstOne() {
        due("reserve(0)", withFourReserves().reserve(0), 7);
    }

    static void promise13_aRankBelow0IsRefused() {
        due("reserve(-1)", withFourReserves().reserve(-1), INVALID);
        due("reserve(MIN)", withFourReserves().reserve(MIN), INVALID);
    }

    static void promise13_theLastOfFourIsAtTheRank3() {
        due("reserve(3)", withFourReserves().reserve(3), 4);
    }

    static void promise13_behindTheLastThereIsNone() {
        due("reserve(4)", withFourReserves().reserve(4), NONE);
        due("reserve(MAX)", withFourReserves().reserve(MAX), NONE);
    }

    static void promise13_withTheSetting2At0ThereIsNone() {
        dueReserves(inFinalWithReserves(0, 4, 300, 310, 320, 330, 340));
    }

    static void promise13_withTheSetting2At1ThereIsOne() {
        dueReserves(inFinalWithReserves(1, 4, 300, 310, 320, 330, 350, 340), 5);
    }

    static void promise13_ifAllAreInTheFinalThereIsNone() {
        dueReserves(inFinal(4, 300, 310, 320, 330));
    }

    static void promise13_aheadOfTheStage2ThereIsNone() {
        due("in the stage 0", inStage(0).reserve(0), NONE);
        due("in the stage 1", swum(4, 300, 310, 320, 330, 340).reserve(0), NONE);
        GalaHeats gala = inStage(3);
        gala.next();
        due("in the next event", gala.reserve(0), NONE);
        gala.draw();
        due("in its stage 1", gala.reserve(0), NONE);
    }

    static void promise13_whoWasCalledCannotBeCalledAgain() {
        GalaHeats gala = withFourReserves();
        gala.scratch(0);
        dueReserves(gala, 6, 5, 4);
    }

    static void promise13_whoWasCalledAndScratchedCannotBeCalledAgain() {
        GalaHeats gala = withFourReserves();
        gala.scratch(0);
        gala.scratch(7);
        dueReserves(gala, 5, 4);
    }

    static void promise13_aReserveWhoScratchedCannotBeCalled() {
        GalaHeats gala = withFourReserves();
        gala.scratch(6);
        dueReserves(gala, 7, 5, 4);
        gala.scratch(7);
        dueReserves(gala, 5, 4);
    }

    static void promise13_whenAllWereCalledThereIsNone() {
        GalaHeats gala = withFourReserves();
        for (int number = 0; number < 4; number++) {
            due("scratch(" + number + ")", gala.scratch(number), 7 - number);
        }
        dueReserves(gala);
    }

    static void promise13_inTheStage3TheyAreToldStill() {
        dueReserves(inStage(3), 4);
    }

    static void promise13_invalidArgumentRatherThanNotFound() {
        for (int stage = 0; stage <= 3; stage++) {
            due("reserve(-1)", inStage(stage).reserve(-1), INVALID);
        }
    }

    static void promise13_itIsNoChange() {
        dueNoChange("reserve(0)", () -> inStage(2), gala -> gala.reserve(0));
    }

    // ---- promise 14: points

    static void promise14_theClub0IsTheLeast() {
        due("points(0)", inStage(3).points(0), 10);
    }

    static void promise14_aClubBelow0IsRefused() {
        due("points(-1)", inStage(3).points(-1), INVALID);
        due("points(MIN)", inStage(3).points(MIN), INVALID);
    }

    static void promise14_theClub5IsTheGreatest() {
        due("points(5)", over(6, 350, 340, 330, 320, 310, 300).points(5), 14);
    }

    static void promise14_theClub6IsRefused() {
        due("points(6)", inStage(3).points(6), INVALID);
        due("points(MAX)", inStage(3).points(MAX), INVALID);
    }

    static void promise14_aClubWithoutSwimmersHas0() {
        due("points(5)", inStage(3).points(5), 0);
        due("points(5)", new GalaHeats().points(5), 0);
    }

    static void promise14_severalSwimmersOfAClubBringTheirsTogether() {
        GalaHeats gala = over(8, 300, 310, 320, 330, 340, 350, 290);
        due("the places 1 and 2", gala.points(0), 18 + 14);
        due("the place 3", gala.points(1), 12);
        due("all clubs", gala.count(11), 18 + 14 + 12 + 10 + 8 + 6 + 4);
    }

    static void promise14_theyAreOfAllEventsSoFar() {
        GalaHeats gala = inStage(3);
        due("points(1)", gala.points(1), 6);
        gala.next();
        due("points(1)", gala.points(1), 6);
        gala.draw();
        swimAll(gala, 300, 310, 320, 330, 340);
        gala.finals();
        swimAll(gala, 300, 290, 320, 330);
        due("ahead of the end", gala.points(1), 6);
        gala.end();
        due("points(1)", gala.points(1), 16);
    }

    static void promise14_itIsNoChange() {
        dueNoChange("points(0)", () -> inStage(3), gala -> gala.points(0));
    }
}
