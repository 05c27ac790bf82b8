import java.util.function.ToIntFunction;

/** Promises 15 to 22: ifDrawn, lane, why, missing, leader, mean, count, undo. */
public final class OutlookTest extends Checks {
    public static void main(String[] args) {
        runCases(OutlookTest.class, 15, 22);
    }

    // ---- promise 15: ifDrawn

    static void promise15_theSwimmer0IsTheLeast() {
        GalaHeats gala = inStage(0);
        due("ifDrawn(0, 0)", gala.ifDrawn(0, 0), 1);
        due("ifDrawn(0, 1)", gala.ifDrawn(0, 1), 2);
    }

    static void promise15_aSwimmerBelow0IsRefused() {
        due("ifDrawn(-1, 0)", inStage(0).ifDrawn(-1, 0), INVALID);
        due("ifDrawn(MIN, 0)", inStage(0).ifDrawn(MIN, 0), INVALID);
    }

    static void promise15_theLastSwimmerIsTheGreatest() {
        GalaHeats gala = inStage(0);
        due("ifDrawn(4, 0)", gala.ifDrawn(4, 0), 1);
        due("ifDrawn(4, 1)", gala.ifDrawn(4, 1), 1);
    }

    static void promise15_oneBehindTheLastSwimmerIsRefused() {
        due("ifDrawn(5, 0)", inStage(0).ifDrawn(5, 0), INVALID);
        due("ifDrawn(MAX, 0)", inStage(0).ifDrawn(MAX, 0), INVALID);
    }

    static void promise15_withoutSwimmersEachIsRefused() {
        due("ifDrawn(0, 2)", new GalaHeats().ifDrawn(0, 2), INVALID);
    }

    static void promise15_aWhatBelow0IsRefused() {
        due("ifDrawn(0, -1)", inStage(0).ifDrawn(0, -1), INVALID);
        due("ifDrawn(0, MIN)", inStage(0).ifDrawn(0, MIN), INVALID);
    }

    static void promise15_theWhat2IsTheGreatest() {
        due("ifDrawn(0, 2)", inStage(0).ifDrawn(0, 2), 2);
    }

    static void promise15_theWhat3IsRefused() {
        due("ifDrawn(0, 3)", inStage(0).ifDrawn(0, 3), INVALID);
        due("ifDrawn(0, MAX)", inStage(0).ifDrawn(0, MAX), INVALID);
    }

    static void promise15_ofOneSwimmerItIsTheMiddleOfOneHeat() {
        GalaHeats gala = entered(10, 0);
        due("ifDrawn(0, 0)", gala.ifDrawn(0, 0), 0);
        due("ifDrawn(0, 1)", gala.ifDrawn(0, 1), 5);
        due("ifDrawn(0, 2)", gala.ifDrawn(0, 2), 1);
    }

    static void promise15_theHeatsAreAsManyAsAreNeeded() {
        int[] swimmers = {1, 4, 5, 8, 9, 12, 13, 16, 17, 28, 29, 30};
        int[] heats = {1, 1, 2, 2, 3, 3, 4, 4, 5, 7, 8, 8};
        for (int each = 0; each < swimmers.length; each++) {
            due(swimmers[each] + " swimmers", entered(4, rising(swimmers[each])).ifDrawn(0, 2), heats[each]);
        }
    }

    static void promise15_aFirstHeatThatWouldBeTooSmallIsFilled() {
        GalaHeats gala = entered(4, rising(13));
        due("ifDrawn(12, 0)", gala.ifDrawn(12, 0), 0);
        due("ifDrawn(12, 1)", gala.ifDrawn(12, 1), 1);
        due("ifDrawn(11, 0)", gala.ifDrawn(11, 0), 0);
        due("ifDrawn(11, 1)", gala.ifDrawn(11, 1), 3);
        due("ifDrawn(8, 0)", gala.ifDrawn(8, 0), 0);
        due("ifDrawn(8, 1)", gala.ifDrawn(8, 1), 2);
        due("ifDrawn(5, 0)", gala.ifDrawn(5, 0), 1);
        due("ifDrawn(5, 1)", gala.ifDrawn(5, 1), 3);
    }

    static void promise15_itIsWhereDrawPutsThem() {
        for (int swimmers = 1; swimmers <= 30; swimmers++) {
            GalaHeats gala = entered(4, falling(swimmers));
            GalaHeats drawn = entered(4, falling(swimmers));
            if (swimmers > 3) {
                gala.scratch(2);
                drawn.scratch(2);
            }
            int heats = drawn.draw();
            for (int number = 0; number < swimmers; number++) {
                if (drawn.swimmer(number, 10) == 0) {
                    due("ifDrawn(" + number + ", 0)", gala.ifDrawn(number, 0), drawn.swimmer(number, 3));
                    due("ifDrawn(" + number + ", 1)", gala.ifDrawn(number, 1), drawn.swimmer(number, 4));
                    due("ifDrawn(" + number + ", 2)", gala.ifDrawn(number, 2), heats);
                }
            }
        }
    }

    static void promise15_itDrawsNothing() {
        GalaHeats gala = entered(4, falling(13));
        String before = told(entered(4, falling(13)));
        for (int what = 0; what < 3; what++) {
            dueTaken("ifDrawn(0, " + what + ")", gala.ifDrawn(0, what));
        }
        dueSame("ifDrawn", told(gala), before);
    }

    static void promise15_inTheNextEventItIsByTheNewEntryTimes() {
        GalaHeats gala = drawn(4, 300, 310);
        swimAll(gala, 0, 290);
        gala.finals();
        gala.swim(1, 0);
        gala.end();
        gala.next();
        due("ifDrawn(1, 1)", gala.ifDrawn(1, 1), 2);
        due("ifDrawn(0, 1)", gala.ifDrawn(0, 1), 3);
    }

    static void promise15_inTheStages1To3ItIsNotPossible() {
        for (int stage = 1; stage <= 3; stage++) {
            for (int what = 0; what < 3; what++) {
                due("ifDrawn(0, " + what + "), stage " + stage, inStage(stage).ifDrawn(0, what), IMPOSSIBLE);
            }
        }
    }

    static void promise15_ifScratchedItIsNotPossible() {
        GalaHeats gala = inStage(0);
        gala.scratch(1);
        for (int what = 0; what < 3; what++) {
            due("ifDrawn(1, " + what + ")", gala.ifDrawn(1, what), IMPOSSIBLE);
        }
        due("the others", gala.ifDrawn(0, 2), 1);
    }

    static void promise15_invalidArgumentRatherThanNotPossible() {
        due("the what, in the stage 1", inStage(1).ifDrawn(0, 3), INVALID);
        due("the swimmer, in the stage 1", inStage(1).ifDrawn(5, 0), INVALID);
        GalaHeats gala = inStage(0);
        gala.scratch(1);
        due("the what, if scratched", gala.ifDrawn(1, -1), INVALID);
    }

    static void promise15_itIsNoChange() {
        dueNoChange("ifDrawn(0, 0)", () -> inStage(0), gala -> gala.ifDrawn(0, 0));
    }

    // ---- promise 16: lane

    private static final int[][] ORDERS = {{2, 3, 1, 4}, {3, 4, 2, 5, 1}, {3, 4, 2, 5, 1, 6}, {4, 5, 3, 6, 2, 7, 1},
        {4, 5, 3, 6, 2, 7, 1, 8}, {5, 6, 4, 7, 3, 8, 2, 9, 1}, {5, 6, 4, 7, 3, 8, 2, 9, 1, 10}};

    static void promise16_theLanesAreFromTheMiddleOutward() {
        GalaHeats gala = new GalaHeats();
        for (int lanes = 4; lanes <= 10; lanes++) {
            gala.set(0, lanes);
            for (int rank = 0; rank < lanes; rank++) {
                due(lanes + " lanes: lane(" + rank + ", 0)", gala.lane(rank, 0), ORDERS[lanes - 4][rank]);
            }
        }
    }

    static void promise16_theRankOfALaneIsTheOtherWayRound() {
        GalaHeats gala = new GalaHeats();
        for (int lanes = 4; lanes <= 10; lanes++) {
            gala.set(0, lanes);
            for (int rank = 0; rank < lanes; rank++) {
                int itsLane = ORDERS[lanes - 4][rank];
                due(lanes + " lanes: lane(" + (itsLane - 1) + ", 1)", gala.lane(itsLane - 1, 1), rank);
            }
        }
    }

    static void promise16_theRank0IsTheLeast() {
        due("lane(0, 0)", new GalaHeats().lane(0, 0), 4);
        due("lane(0, 1), the rank of the lane 1", new GalaHeats().lane(0, 1), 6);
    }

    static void promise16_aRankBelow0IsRefused() {
        due("lane(-1, 0)", new GalaHeats().lane(-1, 0), INVALID);
        due("lane(-1, 1)", new GalaHeats().lane(-1, 1), INVALID);
        due("lane(MIN, 0)", new GalaHeats().lane(MIN, 0), INVALID);
    }

    static void promise16_theRankBelowSetting0IsTheGreatest() {
        due("lane(7, 0)", new GalaHeats().lane(7, 0), 8);
        due("lane(7, 1), the rank of the lane 8", new GalaHeats().lane(7, 1), 7);
        due("lane(3, 0), 4 lanes", entered(4).lane(3, 0), 4);
        due("lane(9, 0), 10 lanes", entered(10).lane(9, 0), 10);
    }

    static void promise16_theRankOfSetting0IsRefused() {
        due("lane(8, 0)", new GalaHeats().lane(8, 0), INVALID);
        due("lane(8, 1)", new GalaHeats().lane(8, 1), INVALID);
        due("lane(4, 0), 4 lanes", entered(4).lane(4, 0), INVALID);
        due("lane(10, 1), 10 lanes", entered(10).lane(10, 1), INVALID);
        due("lane(MAX, 1)", new GalaHeats().lane(MAX, 1), INVALID);
    }

    static void promise16_aWhatBelow0IsRefused() {
        due("lane(0, -1)", new GalaHeats().lane(0, -1), INVALID);
        due("lane(0, MIN)", new GalaHeats().lane(0, MIN), INVALID);
    }

    static void promise16_theWhat2IsRefused() {
        due("lane(0, 2)", new GalaHeats().lane(0, 2), INVALID);
        due("lane(0, MAX)", new GalaHeats().lane(0, MAX), INVALID);
    }

    static void promise16_itIsToldInEachStage() {
        for (int stage = 0; stage <= 3; stage++) {
            due("lane(3, 0)", inStage(stage).lane(3, 0), 4);
            due("lane(3, 1)", inStage(stage).lane(3, 1), 3);
        }
    }

    static void promise16_itIsNoChange() {
        dueNoChange("lane(0, 0)", () -> inStage(0), gala -> gala.lane(0, 0));
        dueNoChange("lane(0, 1)", () -> inStage(0), gala -> gala.lane(0, 1));
    }

    // ---- promise 17: why

    static void promise17_withoutSwimmersNobodyIsThere() {
        due("why()", new GalaHeats().why(), 1);
    }

    static void promise17_inTheStage0AllAreScratched() {
        GalaHeats gala = entered(4, 300, 310);
        gala.scratch(0);
        due("one is not", gala.why(), 0);
        gala.scratch(1);
        due("why()", gala.why(), 1);
    }

    static void promise17_inTheStage0OneSwimmerIsEnough() {
        due("why()", entered(4, 0).why(), 0);
    }

    static void promise17_inTheStage1SomebodyHasNotSwum() {
        GalaHeats gala = inStage(1);
        due("nobody has", gala.why(), 2);
        swimAll(gala, 300, 310, 320, 330);
        due("one has not", gala.why(), 2);
        gala.swim(4, 340);
        due("all have", gala.why(), 0);
    }

    static void promise17_inTheStage1NobodyHasATimeAbove0() {
        GalaHeats gala = swum(4, 0, 0);
        due("why()", gala.why(), 1);
        gala.swim(0, 100);
        due("one has", gala.why(), 0);
    }

    static void promise17_inTheStage1AllAreScratched() {
        GalaHeats gala = swum(4, 300, 310);
        gala.scratch(0);
        gala.scratch(1);
        due("why()", gala.why(), 1);
    }

    static void promise17_2IsToldRatherThan1() {
        GalaHeats gala = drawn(4, 300, 310);
        gala.swim(0, 0);
        due("nobody has a time, and one has not swum", gala.why(), 2);
    }

    static void promise17_whoScratchedInTheStage1NeedNotSwim() {
        GalaHeats gala = drawn(4, 300, 310);
        gala.swim(0, 300);
        gala.scratch(1);
        due("why()", gala.why(), 0);
    }

    static void promise17_whoScratchedInTheStage0NeedNotSwim() {
        GalaHeats gala = entered(4, 300, 310);
        gala.scratch(1);
        gala.draw();
        gala.swim(0, 300);
        due("why()", gala.why(), 0);
    }

    static void promise17_inTheStage2SomebodyHasNotSwum() {
        GalaHeats gala = inStage(2);
        due("nobody has", gala.why(), 2);
        swimAll(gala, 300, 310, 320);
        due("one has not", gala.why(), 2);
        gala.swim(3, 330);
        due("all have, but the reserve", gala.why(), 0);
    }

    static void promise17_inTheStage2TheTime0AloneIsNoReason() {
        GalaHeats gala = inStage(2);
        swimAll(gala, 0, 0, 0, 0);
        due("why()", gala.why(), 0);
    }

    static void promise17_inTheStage2NobodyInTheFinalIsNoReason() {
        GalaHeats gala = inFinal(4, 300);
        gala.scratch(0);
        due("why()", gala.why(), 0);
    }

    static void promise17_inTheStage2WhoWasCalledHasNotSwum() {
        GalaHeats gala = inStage(2);
        swimAll(gala, 300, 310, 320, 330);
        gala.scratch(0);
        due("why()", gala.why(), 2);
        gala.scratch(4);
        due("scratched too", gala.why(), 0);
    }

    static void promise17_inTheStage3ItCan() {
        due("why()", inStage(3).why(), 0);
    }

    static void promise17_itIsNoChange() {
        dueNoChange("why()", () -> inStage(1), GalaHeats::why);
    }

    // ---- promise 18: missing

    static void promise18_theRank0IsTheLowestNumber() {
        GalaHeats gala = drawn(4, 340, 330, 320);
        due("missing(0)", gala.missing(0), 0);
        gala.swim(0, 300);
        due("missing(0)", gala.missing(0), 1);
    }

    static void promise18_aRankBelow0IsRefused() {
        due("missing(-1)", inStage(1).missing(-1), INVALID);
        due("missing(MIN)", inStage(1).missing(MIN), INVALID);
    }

    static void promise18_theLastOneIsTheGreatestNumber() {
        due("missing(4)", inStage(1).missing(4), 4);
        due("of 30", drawn(4, rising(30)).missing(29), 29);
    }

    static void promise18_behindTheLastThereIsNone() {
        due("missing(5)", inStage(1).missing(5), NONE);
        due("missing(MAX)", inStage(1).missing(MAX), NONE);
        due("of 30", drawn(4, rising(30)).missing(30), NONE);
    }

    static void promise18_inTheStage0ThereIsNone() {
        due("missing(0)", inStage(0).missing(0), NONE);
        due("without swimmers", new GalaHeats().missing(0), NONE);
    }

    static void promise18_inTheStage3ThereIsNone() {
        due("missing(0)", inStage(3).missing(0), NONE);
    }

    static void promise18_ifAllHaveSwumThereIsNone() {
        due("in the stage 1", swum(4, 300, 310).missing(0), NONE);
        GalaHeats gala = inStage(2);
        swimAll(gala, 300, 310, 320, 330);
        due("in the stage 2, but the reserve", gala.missing(0), NONE);
    }

    static void promise18_whoSwamTheTime0IsNotMissing() {
        GalaHeats gala = inStage(1);
        gala.swim(0, 0);
        due("missing(0)", gala.missing(0), 1);
        GalaHeats last = inStage(2);
        last.swim(0, 0);
        due("in the final", last.missing(0), 1);
    }

    static void promise18_whoIsScratchedIsNotMissing() {
        GalaHeats gala = inStage(0);
        gala.scratch(0);
        gala.draw();
        gala.scratch(2);
        due("missing(0)", gala.missing(0), 1);
        due("missing(1)", gala.missing(1), 3);
        due("missing(2)", gala.missing(2), 4);
        due("missing(3)", gala.missing(3), NONE);
    }

    static void promise18_inTheStage2ItIsOfTheFinal() {
        GalaHeats gala = inFinal(4, 340, 330, 320, 310, 300);
        due("missing(0)", gala.missing(0), 1);
        due("missing(3)", gala.missing(3), 4);
        due("missing(4)", gala.missing(4), NONE);
    }

    static void promise18_inTheStage2WhoWasCalledIsMissing() {
        GalaHeats gala = inStage(2);
        gala.scratch(1);
        due("missing(1)", gala.missing(1), 2);
        due("missing(3)", gala.missing(3), 4);
        due("missing(4)", gala.missing(4), NONE);
    }

    static void promise18_invalidArgumentRatherThanNotFound() {
        due("in the stage 0", inStage(0).missing(-1), INVALID);
        due("in the stage 3", inStage(3).missing(-1), INVALID);
    }

    static void promise18_itIsNoChange() {
        dueNoChange("missing(0)", () -> inStage(1), gala -> gala.missing(0));
    }

    // ---- promise 19: leader

    /** The club 3 has 10, 2 and 4 have 5 each, 1 has 2, 0 and 5 have none. */
    private static GalaHeats ledBy3() {
        GalaHeats gala = drawn(4, 300, 310, 320, 330, 340);
        swimAll(gala, 0, 310, 320, 330, 340);
        gala.finals();
        swimAll(gala, -1, 400, 350, 300, 350);
        dueTaken("end()", gala.end());
        return gala;
    }

    static void promise19_theRank0HasTheMost() {
        due("leader(0)", ledBy3().leader(0), 3);
    }

    static void promise19_ofTheSamePointsTheLowestClubIsFirst() {
        due("leader(1)", ledBy3().leader(1), 2);
        due("leader(2)", ledBy3().leader(2), 4);
        due("leader(3)", ledBy3().leader(3), 1);
        due("leader(4)", ledBy3().leader(4), 0);
    }

    static void promise19_theRank5HasTheFewest() {
        due("leader(5)", ledBy3().leader(5), 5);
        due("the club 0 is the last", over(5, 0, 310, 320, 330, 340, 350).leader(5), 0);
    }

    static void promise19_aRankBelow0IsRefused() {
        due("leader(-1)", ledBy3().leader(-1), INVALID);
        due("leader(MIN)", ledBy3().leader(MIN), INVALID);
    }

    static void promise19_theRank6IsRefused() {
        due("leader(6)", ledBy3().leader(6), INVALID);
        due("leader(MAX)", ledBy3().leader(MAX), INVALID);
    }

    static void promise19_withoutPointsTheClubsAreInTheirOrder() {
        for (int rank = 0; rank < 6; rank++) {
            due("leader(" + rank + ")", new GalaHeats().leader(rank), rank);
        }
    }

    static void promise19_itIsNoChange() {
        dueNoChange("leader(0)", () -> inStage(3), gala -> gala.leader(0));
    }

    // ---- promise 20: mean

    private static void dueMean(GalaHeats gala, int together, int times) {
        due("mean() of " + together + " / " + times, gala.mean(), Float.floatToIntBits((float) together / (float) times));
    }

    static void promise20_inTheStage0ThereIsNone() {
        due("mean()", inStage(0).mean(), NONE);
        due("without swimmers", new GalaHeats().mean(), NONE);
    }

    static void promise20_withoutTimesThereIsNone() {
        due("in the stage 1", inStage(1).mean(), NONE);
        due("in the stage 2", inStage(2).mean(), NONE);
    }

    static void promise20_withTheTime0AloneThereIsNone() {
        due("in the stage 1", swum(4, 0, 0).mean(), NONE);
        GalaHeats gala = inStage(2);
        swimAll(gala, 0, 0, 0, 0);
        due("in the stage 2", gala.mean(), NONE);
        gala.end();
        due("in the stage 3", gala.mean(), NONE);
    }

    static void promise20_theTime0IsNotCounted() {
        dueMean(swum(4, 0, 301, 0, 300), 601, 2);
    }

    static void promise20_theLeastMeanIs100() {
        due("one", swum(4, 100).mean(), 0x42C80000);
        due("four", swum(4, 100, 100, 100, 100).mean(), 0x42C80000);
    }

    static void promise20_theGreatestMeanIs999() {
        due("one", swum(4, 999).mean(), 0x4479C000);
        due("thirty", swum(10, allOf(999)).mean(), 0x4479C000);
    }

    private static int[] allOf(int time) {
        int[] times = new int[30];
        for (int number = 0; number < 30; number++) {
            times[number] = time;
        }
        return times;
    }

    static void promise20_eachTimeAloneIsTheMean() {
        for (int time = 100; time <= 999; time++) {
            dueMean(swum(4, time), time, 1);
        }
    }

    static void promise20_itIsRoundedAsAFloat() {
        due("(460 + 460 + 465) / 3", swum(4, 460, 460, 465).mean(), 1139201365);
        GalaHeats gala = drawn(10, rising(30));
        int together = 0;
        for (int number = 0; number < 30; number++) {
            int time = 100 + number * 311 % 900;
            together += time;
            gala.swim(number, time);
            dueMean(gala, together, number + 1);
        }
    }

    static void promise20_powersOfTwoAreExact() {
        due("128", swum(4, 128).mean(), 0x43000000);
        due("256", swum(4, 256).mean(), 0x43800000);
        due("512", swum(4, 511, 513).mean(), 0x44000000);
        due("511.5", swum(4, 511, 512).mean(), 0x43FFC000);
    }

    static void promise20_inTheStage1ATimeThatIsGoneIsNotCounted() {
        GalaHeats gala = swum(4, 300, 311);
        gala.scratch(0);
        dueMean(gala, 311, 1);
    }

    static void promise20_inTheStage2ItIsOfTheFinal() {
        GalaHeats gala = inStage(2);
        gala.swim(0, 401);
        dueMean(gala, 401, 1);
        gala.swim(1, 500);
        dueMean(gala, 901, 2);
        gala.scratch(0);
        dueMean(gala, 500, 1);
    }

    static void promise20_inTheStage3ItIsOfTheFinal() {
        dueMean(inStage(3), 300 + 310 + 320 + 330, 4);
    }

    static void promise20_inTheNextEventThereIsNone() {
        GalaHeats gala = inStage(3);
        gala.next();
        due("mean()", gala.mean(), NONE);
    }

    static void promise20_itIsNoChange() {
        dueNoChange("mean()", () -> inStage(3), GalaHeats::mean);
    }

    // ---- promise 21: count

    static void promise21_aWhatBelow0IsRefused() {
        due("count(-1)", new GalaHeats().count(-1), INVALID);
        due("count(MIN)", new GalaHeats().count(MIN), INVALID);
    }

    static void promise21_theWhat0IsTheStage() {
        for (int stage = 0; stage <= 3; stage++) {
            due("count(0)", inStage(stage).count(0), stage);
        }
    }

    static void promise21_theSwimmersAreFrom0To30() {
        due("count(1)", new GalaHeats().count(1), 0);
        due("count(1)", entered(8, rising(30)).count(1), 30);
    }

    static void promise21_theScratchedAreASet() {
        GalaHeats gala = entered(4, rising(30));
        due("nobody", gala.count(2), 0);
        gala.scratch(0);
        due("the swimmer 0", gala.count(2), 1);
        gala.scratch(29);
        due("the swimmers 0 and 29", gala.count(2), 1 | 1 << 29);
        gala.draw();
        gala.scratch(5);
        due("one more in the stage 1", gala.count(2), 1 | 1 << 5 | 1 << 29);
    }

    static void promise21_theScratchedOfTheFinalAreInTheSetToo() {
        GalaHeats gala = inStage(2);
        gala.scratch(4);
        gala.scratch(1);
        due("count(2)", gala.count(2), 1 << 1 | 1 << 4);
    }

    static void promise21_theHeatsAre0AheadOfTheDraw() {
        due("count(3)", inStage(0).count(3), 0);
        for (int stage = 1; stage <= 3; stage++) {
            due("in the stage " + stage, inStage(stage).count(3), 2);
        }
    }

    static void promise21_theFinalIsASetAndEmptyAheadOfIt() {
        due("in the stage 0", inStage(0).count(4), 0);
        due("in the stage 1", swum(4, 300, 310).count(4), 0);
        due("in the stage 2", inStage(2).count(4), 15);
        due("in the stage 3", inStage(3).count(4), 15);
    }

    static void promise21_theFinalIsOfThoseWhoAreInItNow() {
        GalaHeats gala = inStage(2);
        gala.scratch(0);
        due("one was called", gala.count(4), 30);
        gala.scratch(1);
        due("nobody was called", gala.count(4), 28);
    }

    static void promise21_theReservesAreThoseWhoCanBeCalledYet() {
        GalaHeats gala = inFinalWithReserves(4, 4, rising(9));
        due("four", gala.count(5), 4);
        gala.scratch(0);
        due("one was called", gala.count(5), 3);
        gala.scratch(7);
        due("one scratched", gala.count(5), 2);
        gala.scratch(4);
        due("the one who was called scratched, and one was called", gala.count(5), 1);
        due("ahead of the final", inStage(1).count(5), 0);
    }

    static void promise21_theTimesAreOfHeatsAndFinalAnd0Too() {
        GalaHeats gala = inStage(1);
        due("none", gala.count(6), 0);
        swimAll(gala, 300, 310, 320, 330, 0);
        due("of the heats", gala.count(6), 5);
        gala.finals();
        due("as the final is drawn", gala.count(6), 5);
        gala.swim(0, 300);
        gala.swim(1, 0);
        due("of both", gala.count(6), 7);
    }

    static void promise21_whoSwamAgainHasOneTime() {
        GalaHeats gala = inStage(1);
        gala.swim(0, 300);
        gala.swim(0, 301);
        gala.swim(0, 0);
        due("count(6)", gala.count(6), 1);
    }

    static void promise21_aTimeThatIsGoneIsNotCounted() {
        GalaHeats gala = swum(4, 300, 310);
        gala.scratch(0);
        due("of a heat", gala.count(6), 1);
        GalaHeats last = inStage(2);
        last.swim(0, 300);
        last.scratch(0);
        due("of the final, and five of the heats", last.count(6), 5);
    }

    static void promise21_theTimesAreOfThisEvent() {
        GalaHeats gala = inStage(3);
        due("in the stage 3", gala.count(6), 9);
        gala.next();
        due("in the next event", gala.count(6), 0);
    }

    static void promise21_anEventCountsAsItEnds() {
        GalaHeats gala = inFinal(4, 300);
        gala.swim(0, 300);
        due("ahead of the end", gala.count(7), 0);
        gala.end();
        due("at the end", gala.count(7), 1);
        gala.next();
        due("in the next event", gala.count(7), 1);
        gala.draw();
        gala.swim(0, 300);
        gala.finals();
        gala.swim(0, 300);
        gala.end();
        due("at its end", gala.count(7), 2);
    }

    static void promise21_withoutARecordThereIsNone() {
        GalaHeats gala = inStage(1);
        due("count(8)", gala.count(8), NONE);
        due("count(9)", gala.count(9), NONE);
    }

    static void promise21_theTime0IsNoRecord() {
        GalaHeats gala = inStage(1);
        gala.swim(0, 0);
        due("count(8)", gala.count(8), NONE);
        due("count(9)", gala.count(9), NONE);
        gala.swim(1, 999);
        gala.swim(2, 0);
        due("count(8)", gala.count(8), 999);
        due("count(9)", gala.count(9), 1);
    }

    static void promise21_anEntryTimeIsNoRecord() {
        GalaHeats gala = drawn(4, 100, 110);
        gala.swim(1, 120);
        due("count(8)", gala.count(8), 120);
        due("count(9)", gala.count(9), 1);
    }

    static void promise21_theRecordIsOfTheOneWhoSwamItFirst() {
        GalaHeats gala = inStage(1);
        gala.swim(3, 500);
        gala.swim(0, 500);
        due("count(9)", gala.count(9), 3);
        gala.swim(2, 499);
        due("count(8)", gala.count(8), 499);
        due("count(9)", gala.count(9), 2);
    }

    static void promise21_theLeastRecordIs100() {
        GalaHeats gala = inStage(1);
        gala.swim(1, 101);
        gala.swim(0, 100);
        due("count(8)", gala.count(8), 100);
        due("count(9)", gala.count(9), 0);
    }

    static void promise21_theRecordStaysIfItsTimeIsReplaced() {
        GalaHeats gala = inStage(1);
        gala.swim(0, 300);
        gala.swim(1, 310);
        gala.swim(0, 320);
        due("count(8)", gala.count(8), 300);
        due("count(9)", gala.count(9), 0);
    }

    static void promise21_theRecordStaysIfItsTimeIsGone() {
        GalaHeats gala = swum(4, 300, 310);
        gala.scratch(0);
        due("of a heat: count(8)", gala.count(8), 300);
        due("count(9)", gala.count(9), 0);
        gala.finals();
        gala.swim(1, 280);
        gala.scratch(1);
        due("of the final: count(8)", gala.count(8), 280);
        due("count(9)", gala.count(9), 1);
    }

    static void promise21_theRecordIsOfAllEventsSoFar() {
        GalaHeats gala = inStage(3);
        gala.next();
        gala.draw();
        gala.swim(4, 300);
        due("the same time: count(9)", gala.count(9), 0);
        gala.swim(4, 299);
        due("a lesser one: count(8)", gala.count(8), 299);
        due("count(9)", gala.count(9), 4);
    }

    static void promise21_theReservesWhoWereCalledAreCountedSoFar() {
        GalaHeats gala = inFinalWithReserves(2, 4, rising(6));
        due("nobody yet", gala.count(10), 0);
        gala.scratch(0);
        due("one", gala.count(10), 1);
        gala.scratch(4);
        due("for the one who was called", gala.count(10), 2);
        gala.scratch(1);
        due("nobody was left", gala.count(10), 2);
    }

    static void promise21_theReservesWhoWereCalledAreOfAllEvents() {
        GalaHeats gala = inStage(2);
        gala.scratch(0);
        swimAll(gala, -1, 310, 320, 330, 340);
        gala.end();
        due("in the stage 3", gala.count(10), 1);
        gala.next();
        due("in the next event", gala.count(10), 1);
    }

    static void promise21_theHalfPointsAreOfAllClubs() {
        due("nothing yet", inStage(2).count(11), 0);
        due("10 + 6 + 4 + 2", inStage(3).count(11), 22);
    }

    static void promise21_theStatesAreFrom0To4() {
        GalaHeats gala = new GalaHeats();
        for (int number = 0; number < 6; number++) {
            due("count(12)", gala.count(12), number < 4 ? number : 4);
            gala.enter(0, 300);
        }
    }

    static void promise21_theLengthIsFrom0To60() {
        GalaHeats gala = new GalaHeats();
        for (int length = 0; length < 60; length++) {
            due("count(13)", gala.count(13), length);
            gala.type('d');
        }
        due("count(13)", gala.count(13), 60);
    }

    static void promise21_theWhats14To19AreRefused() {
        for (int what = 14; what < 20; what++) {
            due("count(" + what + ")", new GalaHeats().count(what), INVALID);
        }
    }

    static void promise21_theWhats20To22AreTheSettings() {
        GalaHeats gala = new GalaHeats();
        gala.set(0, 10);
        gala.set(1, 1);
        gala.set(2, 4);
        due("count(20)", gala.count(20), 10);
        due("count(21)", gala.count(21), 1);
        due("count(22)", gala.count(22), 4);
    }

    static void promise21_theWhat23IsRefused() {
        due("count(23)", new GalaHeats().count(23), INVALID);
        due("count(MAX)", new GalaHeats().count(MAX), INVALID);
    }

    static void promise21_itIsNoChange() {
        for (int what : new int[] {0, 1, 2, 3, 4, 5, 6, 7, 8, 9, 10, 11, 12, 13, 20, 21, 22}) {
            dueNoChange("count(" + what + ")", () -> inStage(3), gala -> gala.count(what));
        }
    }

    // ---- promise 22: undo

    static void promise22_withAnEmptyHistoryItIsNotPossible() {
        due("undo()", new GalaHeats().undo(), IMPOSSIBLE);
    }

    static void promise22_afterOneChange0StatesAreLeft() {
        GalaHeats gala = new GalaHeats();
        gala.enter(0, 300);
        due("undo()", gala.undo(), 0);
        due("count(1)", gala.count(1), 0);
        due("once more", gala.undo(), IMPOSSIBLE);
    }

    static void promise22_with4StatesEachComesBack() {
        GalaHeats gala = new GalaHeats();
        for (int number = 0; number < 4; number++) {
            gala.enter(0, 300);
        }
        for (int left = 3; left >= 0; left--) {
            due("undo()", gala.undo(), left);
            due("count(1)", gala.count(1), left);
            due("count(12)", gala.count(12), left);
        }
        due("the history is empty", gala.undo(), IMPOSSIBLE);
    }

    static void promise22_theFifthChangeDropsTheOldestState() {
        GalaHeats gala = new GalaHeats();
        for (int number = 0; number < 5; number++) {
            gala.enter(0, 300);
        }
        for (int left = 3; left >= 0; left--) {
            due("undo()", gala.undo(), left);
            due("count(1)", gala.count(1), left + 1);
        }
        due("the state without swimmers is dropped", gala.undo(), IMPOSSIBLE);
        due("count(1)", gala.count(1), 1);
    }

    static void promise22_afterManyChangesTheLatest4StatesAreThere() {
        GalaHeats gala = new GalaHeats();
        for (int number = 0; number < 30; number++) {
            gala.enter(number % 6, 100 + number);
        }
        for (int left = 3; left >= 0; left--) {
            due("undo()", gala.undo(), left);
            due("count(1)", gala.count(1), left + 26);
            due("the last one", gala.swimmer(left + 25, 1), 125 + left);
        }
        due("the history is empty", gala.undo(), IMPOSSIBLE);
    }

    static void promise22_itIsNoChangeItself() {
        GalaHeats gala = inStage(0);
        gala.undo();
        due("goes further back", gala.undo(), 2);
        due("count(1)", gala.count(1), 3);
        due("count(12)", gala.count(12), 2);
    }

    static void promise22_afterItChangesAreRecordedAnew() {
        GalaHeats gala = inStage(0);
        gala.undo();
        gala.undo();
        due("enter(5, 999)", gala.enter(5, 999), 3);
        due("count(12)", gala.count(12), 3);
        due("undo()", gala.undo(), 2);
        due("count(1)", gala.count(1), 3);
        due("undo()", gala.undo(), 1);
        due("count(1)", gala.count(1), 2);
    }

    static void promise22_refusedCallsAreNotInTheHistory() {
        GalaHeats gala = new GalaHeats();
        due("one ahead of all", gala.scratch(0), INVALID);
        for (int number = 0; number < 6; number++) {
            gala.enter(0, 300);
            due("one among the changes", gala.swim(0, 300), IMPOSSIBLE);
        }
        for (int left = 3; left >= 0; left--) {
            due("undo()", gala.undo(), left);
            due("count(1)", gala.count(1), left + 2);
            due("one among them", gala.next(), IMPOSSIBLE);
        }
    }

    static void promise22_aRefusedUndoChangesNothing() {
        dueNothingChanged("undo()", () -> {
            GalaHeats gala = inStage(1);
            for (int each = 0; each < 4; each++) {
                gala.undo();
            }
            return gala;
        }, GalaHeats::undo, IMPOSSIBLE);
    }

    static void promise22_theTextStays() {
        GalaHeats gala = withText(inStage(0), "d;");
        gala.undo();
        due("count(13)", gala.count(13), 2);
        due("play()", gala.play(), 1);
        gala.type('x');
        gala.undo();
        due("count(13)", gala.count(13), 3);
        gala.clearText();
        gala.undo();
        due("count(13)", gala.count(13), 0);
    }

    /** All steps of a gala, one change each. */
    private static int step(GalaHeats gala, int change) {
        switch (change) {
            case 0:
                return gala.set(0, 4);
            case 1:
            case 2:
            case 3:
            case 4:
            case 5:
            case 6:
                return gala.enter(change - 1, 290 + 10 * change);
            case 7:
                return gala.scratch(5);
            case 8:
                return gala.draw();
            case 9:
            case 10:
            case 11:
            case 12:
            case 13:
                return gala.swim(change - 9, 200 + change);
            case 14:
                return gala.finals();
            case 15:
            case 16:
            case 17:
            case 18:
                return gala.swim(change - 15, 170 + change);
            case 19:
                return gala.scratch(0);
            case 20:
                return gala.swim(4, 0);
            case 21:
                return gala.end();
            default:
                return gala.next();
        }
    }

    private static GalaHeats atStep(int changes) {
        GalaHeats gala = new GalaHeats();
        for (int change = 0; change < changes; change++) {
            dueTaken("step " + change, step(gala, change));
        }
        return gala;
    }

    static void promise22_eachStepOfAGalaIsUndone() {
        for (int change = 0; change <= 22; change++) {
            int itsChange = change;
            dueOneChange("step " + change, () -> atStep(itsChange), gala -> step(gala, itsChange));
        }
    }

    static void promise22_fourStepsOfAGalaAreUndone() {
        for (int changes = 4; changes <= 23; changes++) {
            GalaHeats gala = atStep(changes);
            for (int left = 3; left >= 0; left--) {
                due("undo()", gala.undo(), left);
            }
            dueSame("four steps ahead of " + changes, told(gala), told(atStep(changes - 4)));
        }
    }

    static void promise22_aGalaGoesOnAsIfNothingHadBeen() {
        for (int change = 0; change <= 22; change++) {
            GalaHeats gala = atStep(change);
            step(gala, change);
            gala.undo();
            for (int again = change; again <= 22; again++) {
                dueTaken("step " + again, step(gala, again));
            }
            dueSame("step " + change + " undone and done again", told(gala), told(atStep(23)));
        }
    }

    static void promise22_whatPlayDidIsUndoneAsOne() {
        ToIntFunction<GalaHeats> play = GalaHeats::play;
        dueOneChange("play()", () -> withText(inStage(0), "x0;d;s1,300;s2,310;s3,320;s4,330;f;s1,290;"), play);
    }

    static void promise22_reservesAreDrawnAnewAfterIt() {
        GalaHeats gala = inFinal(4, 300, 310, 320, 330, 340, 350);
        due("reserve(0)", gala.reserve(0), 4);
        gala.undo();
        due("ahead of the final", gala.reserve(0), NONE);
        gala.swim(4, 360);
        gala.finals();
        due("reserve(0)", gala.reserve(0), 5);
        due("reserve(1)", gala.reserve(1), 4);
        due("reserve(2)", gala.reserve(2), NONE);
    }

    static void promise22_theReservesOfTheEventAheadComeBack() {
        GalaHeats gala = inStage(2);
        swimAll(gala, 300, 310, 320, 330);
        typeAll(gala, "o;n;d;s0,290;s1,280;s2,270;s3,260;s4,250;f;");
        due("play()", gala.play(), 9);
        due("the reserve of the next event", gala.reserve(0), 0);
        gala.undo();
        due("the reserve of this event", gala.reserve(0), 4);
        due("scratch(0)", gala.scratch(0), 4);
    }

    static void promise22_whoCameInAPlayThatIsUndoneIsInNoHeat() {
        GalaHeats gala = withText(inStage(0), "e5,100;d;s5,100;");
        due("play()", gala.play(), 3);
        gala.undo();
        gala.draw();
        due("heat(0, 0)", gala.heat(0, 0), 2);
        due("heat(1, 2)", gala.heat(1, 2), 300);
        due("heat(0, 2)", gala.heat(0, 2), 310);
        dueLanes(gala, 1, 4, 0, 2, NONE);
        dueLanes(gala, 0, NONE, 1, 3, NONE);
        due("count(6)", gala.count(6), 0);
        due("missing(5)", gala.missing(5), NONE);
    }

    static void promise22_of30SwimmersEachStageIsUndone() {
        dueOneChange("draw()", () -> entered(8, falling(30)), GalaHeats::draw);
        dueOneChange("swim(29, 100)", () -> drawn(8, falling(30)), gala -> gala.swim(29, 100));
        dueOneChange("finals()", () -> swum(8, falling(30)), GalaHeats::finals);
        dueOneChange("scratch(29)", () -> inFinal(8, falling(30)), gala -> gala.scratch(29));
        dueOneChange("next()", () -> over(8, falling(30)), GalaHeats::next);
    }

    static void promise22_aReserveIsNotCalledAnyMore() {
        GalaHeats gala = inFinal(4, 300, 310, 320, 330, 340, 350);
        due("scratch(0)", gala.scratch(0), 4);
        gala.undo();
        due("reserve(0)", gala.reserve(0), 4);
        due("count(10)", gala.count(10), 0);
        due("called anew", gala.scratch(1), 4);
        due("the next one", gala.scratch(0), 5);
    }

    static void promise22_theRecordComesBack() {
        GalaHeats gala = inStage(1);
        gala.swim(0, 300);
        gala.swim(1, 290);
        gala.undo();
        due("count(8)", gala.count(8), 300);
        due("count(9)", gala.count(9), 0);
        gala.undo();
        due("count(8)", gala.count(8), NONE);
    }
}
