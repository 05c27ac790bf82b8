/** Promises 5 to 9: draw, swim, finals, end, next. */
public final class StagesTest extends Checks {
    public static void main(String[] args) {
        runCases(StagesTest.class, 5, 9);
    }

    // ---- promise 5: draw

    static void promise05_oneSwimmerIsInOneHeatInTheMiddle() {
        GalaHeats gala = entered(4, 300);
        due("draw()", gala.draw(), 1);
        dueLanes(gala, 0, NONE, 0, NONE, NONE);
    }

    static void promise05_asManyAsLanesFillOneHeat() {
        GalaHeats gala = entered(5, rising(5));
        due("draw()", gala.draw(), 1);
        dueLanes(gala, 0, 4, 2, 0, 1, 3);
    }

    static void promise05_oneMoreThanLanesNeedsTwoHeats() {
        GalaHeats gala = entered(5, rising(6));
        due("draw()", gala.draw(), 2);
        dueLanes(gala, 1, NONE, 4, 0, 2, NONE);
        dueLanes(gala, 0, NONE, 5, 1, 3, NONE);
    }

    static void promise05_twoHeatsAreNotFilledThoughTheFirstIsTooSmall() {
        GalaHeats gala = entered(4, rising(5));
        due("draw()", gala.draw(), 2);
        due("count(21)", gala.count(21), 3);
        dueLanes(gala, 1, 4, 0, 2, NONE);
        dueLanes(gala, 0, NONE, 1, 3, NONE);
    }

    static void promise05_twiceTheLanesFillTwoHeats() {
        GalaHeats gala = entered(4, rising(8));
        due("draw()", gala.draw(), 2);
        dueLanes(gala, 1, 4, 0, 2, 6);
        dueLanes(gala, 0, 5, 1, 3, 7);
    }

    static void promise05_oneMoreThanTwiceTheLanesNeedsThreeHeats() {
        GalaHeats gala = entered(4, rising(9));
        due("draw()", gala.draw(), 3);
        dueLanes(gala, 2, 6, 0, 3, NONE);
        dueLanes(gala, 1, 7, 1, 4, NONE);
        dueLanes(gala, 0, 8, 2, 5, NONE);
    }

    static void promise05_threeTimesTheLanesFillThreeHeats() {
        GalaHeats gala = entered(4, rising(12));
        due("draw()", gala.draw(), 3);
        dueLanes(gala, 2, 6, 0, 3, 9);
        dueLanes(gala, 1, 7, 1, 4, 10);
        dueLanes(gala, 0, 8, 2, 5, 11);
    }

    static void promise05_oneMoreThanThreeTimesTheLanesNeedsFourHeats() {
        GalaHeats gala = entered(4, rising(13));
        due("set(1, 1)", gala.set(1, 1), 3);
        due("draw()", gala.draw(), 4);
        dueLanes(gala, 3, 6, 0, 3, 9);
        dueLanes(gala, 2, 7, 1, 4, 10);
        dueLanes(gala, 1, 8, 2, 5, 11);
        dueLanes(gala, 0, NONE, 12, NONE, NONE);
    }

    static void promise05_fourTimesTheLanesFillFourHeats() {
        GalaHeats gala = entered(4, rising(16));
        due("draw()", gala.draw(), 4);
        dueLanes(gala, 3, 6, 0, 3, 9);
        dueLanes(gala, 2, 7, 1, 4, 10);
        dueLanes(gala, 1, 8, 2, 5, 11);
        dueLanes(gala, 0, 14, 12, 13, 15);
    }

    static void promise05_thirtyIn4LanesAreTheMostHeats() {
        GalaHeats gala = entered(4, rising(30));
        due("draw()", gala.draw(), 8);
        dueLanes(gala, 7, 6, 0, 3, 9);
        dueLanes(gala, 6, 7, 1, 4, 10);
        dueLanes(gala, 5, 8, 2, 5, 11);
        dueLanes(gala, 4, 14, 12, 13, 15);
        dueLanes(gala, 3, 18, 16, 17, 19);
        dueLanes(gala, 2, 22, 20, 21, 23);
        dueLanes(gala, 1, 26, 24, 25, NONE);
        dueLanes(gala, 0, 29, 27, 28, NONE);
    }

    static void promise05_thirtyIn10LanesFillThreeHeats() {
        GalaHeats gala = entered(10, rising(30));
        due("draw()", gala.draw(), 3);
        dueLanes(gala, 2, 24, 18, 12, 6, 0, 3, 9, 15, 21, 27);
        dueLanes(gala, 0, 26, 20, 14, 8, 2, 5, 11, 17, 23, 29);
    }

    static void promise05_aFirstHeatOf1IsEnoughIfTheSetting1Is1() {
        GalaHeats gala = entered(4, rising(17));
        gala.set(1, 1);
        due("draw()", gala.draw(), 5);
        dueLanes(gala, 0, NONE, 16, NONE, NONE);
        dueLanes(gala, 1, 14, 12, 13, 15);
    }

    static void promise05_oneIsMissingInAFirstHeatOf1IfTheSetting1Is2() {
        GalaHeats gala = entered(4, rising(17));
        gala.set(1, 2);
        due("draw()", gala.draw(), 5);
        dueLanes(gala, 0, NONE, 15, 16, NONE);
        dueLanes(gala, 1, 14, 12, 13, NONE);
    }

    static void promise05_twoAreMissingInAFirstHeatOf1IfTheSetting1Is3() {
        GalaHeats gala = entered(4, rising(17));
        due("draw()", gala.draw(), 5);
        dueLanes(gala, 0, 16, 14, 15, NONE);
        dueLanes(gala, 1, NONE, 12, 13, NONE);
    }

    static void promise05_aFirstHeatOf2IsEnoughIfTheSetting1Is2() {
        GalaHeats gala = entered(4, rising(18));
        gala.set(1, 2);
        due("draw()", gala.draw(), 5);
        dueLanes(gala, 0, NONE, 16, 17, NONE);
        dueLanes(gala, 1, 14, 12, 13, 15);
    }

    static void promise05_oneIsMissingInAFirstHeatOf2IfTheSetting1Is3() {
        GalaHeats gala = entered(4, rising(18));
        due("draw()", gala.draw(), 5);
        dueLanes(gala, 0, 17, 15, 16, NONE);
        dueLanes(gala, 1, 14, 12, 13, NONE);
    }

    static void promise05_aFirstHeatOf3IsEnoughIfTheSetting1Is3() {
        GalaHeats gala = entered(4, rising(19));
        due("draw()", gala.draw(), 5);
        dueLanes(gala, 0, 18, 16, 17, NONE);
        dueLanes(gala, 1, 14, 12, 13, 15);
    }

    static void promise05_ofFourHeatsTheMissingOnesComeFromTheSpreadHeat1() {
        GalaHeats gala = entered(4, rising(13));
        due("draw()", gala.draw(), 4);
        dueLanes(gala, 0, 12, 8, 11, NONE);
        dueLanes(gala, 1, NONE, 2, 5, NONE);
        dueLanes(gala, 2, 7, 1, 4, 10);
    }

    static void promise05_theSwimmer0CanBeTheOneWhoComesIntoTheFirstHeat() {
        int[] entries = rising(13);
        entries[0] = 299;
        entries[12] = 300;
        GalaHeats gala = entered(4, entries);
        gala.set(1, 2);
        due("draw()", gala.draw(), 4);
        dueLanes(gala, 0, NONE, 0, 12, NONE);
        dueLanes(gala, 1, 9, 3, 6, NONE);
    }

    static void promise05_itIsByTheRankNotByTheNumber() {
        GalaHeats gala = entered(4, falling(13));
        due("draw()", gala.draw(), 4);
        dueLanes(gala, 3, 6, 12, 9, 3);
        dueLanes(gala, 2, 5, 11, 8, 2);
        dueLanes(gala, 1, NONE, 10, 7, NONE);
        dueLanes(gala, 0, 0, 4, 1, NONE);
    }

    static void promise05_whoHasNoEntryTimeIsBehindAllOthers() {
        GalaHeats gala = entered(8, 0, 300, 0, 200, 300, 999);
        due("draw()", gala.draw(), 1);
        dueLanes(gala, 0, NONE, 0, 4, 3, 1, 5, 2, NONE);
    }

    static void promise05_ofTheSameEntryTimeTheLowestNumberIsFirst() {
        GalaHeats gala = entered(4, 300, 300, 300, 300);
        due("draw()", gala.draw(), 1);
        dueLanes(gala, 0, 2, 0, 1, 3);
    }

    static void promise05_whoIsScratchedNeedsNoHeat() {
        GalaHeats gala = entered(4, rising(5));
        gala.scratch(2);
        due("draw()", gala.draw(), 1);
        dueLanes(gala, 0, 3, 0, 1, 4);
    }

    static void promise05_allButOneScratched() {
        GalaHeats gala = entered(4, rising(3));
        gala.scratch(0);
        gala.scratch(2);
        due("draw()", gala.draw(), 1);
        dueLanes(gala, 0, NONE, 1, NONE, NONE);
    }

    static void promise05_whoScratchesAfterItMovesNobody() {
        GalaHeats gala = drawn(4, rising(5));
        gala.scratch(0);
        dueLanes(gala, 1, 4, NONE, 2, NONE);
        dueLanes(gala, 0, NONE, 1, 3, NONE);
        due("count(3)", gala.count(3), 2);
    }

    static void promise05_theStageIs1Then() {
        GalaHeats gala = entered(4, 300);
        gala.draw();
        due("count(0)", gala.count(0), 1);
    }

    static void promise05_withoutSwimmersItIsNotPossible() {
        due("draw()", new GalaHeats().draw(), IMPOSSIBLE);
    }

    static void promise05_ifAllAreScratchedItIsNotPossible() {
        GalaHeats gala = entered(4, 300, 310);
        gala.scratch(0);
        gala.scratch(1);
        due("draw()", gala.draw(), IMPOSSIBLE);
    }

    static void promise05_inTheStage1ItIsNotPossible() {
        due("draw()", inStage(1).draw(), IMPOSSIBLE);
    }

    static void promise05_inTheStage2ItIsNotPossible() {
        due("draw()", inStage(2).draw(), IMPOSSIBLE);
    }

    static void promise05_inTheStage3ItIsNotPossible() {
        due("draw()", inStage(3).draw(), IMPOSSIBLE);
    }

    static void promise05_inTheNextEventItIsByTheNewEntryTimes() {
        GalaHeats gala = drawn(4, 300, 310, 320);
        swimAll(gala, 300, 310, 290);
        gala.finals();
        swimAll(gala, 0, 295, 0);
        gala.end();
        gala.next();
        due("draw()", gala.draw(), 1);
        dueLanes(gala, 0, 0, 2, 1, NONE);
    }

    static void promise05_aRefusedCallChangesNothing() {
        dueNothingChanged("without swimmers", GalaHeats::new, GalaHeats::draw, IMPOSSIBLE);
        dueNothingChanged("all scratched", () -> {
            GalaHeats gala = entered(4, 300);
            gala.scratch(0);
            return gala;
        }, GalaHeats::draw, IMPOSSIBLE);
        for (int stage = 1; stage <= 3; stage++) {
            int itsStage = stage;
            dueNothingChanged("in the stage " + stage, () -> inStage(itsStage), GalaHeats::draw, IMPOSSIBLE);
        }
    }

    static void promise05_itIsAChange() {
        dueOneChange("draw()", () -> inStage(0), GalaHeats::draw);
        dueOneChange("four heats", () -> entered(4, falling(13)), GalaHeats::draw);
    }

    // ---- promise 6: swim

    static void promise06_theSwimmer0IsTheLeast() {
        GalaHeats gala = inStage(1);
        due("swim(0, 300)", gala.swim(0, 300), 0);
        due("swimmer(0, 5)", gala.swimmer(0, 5), 300);
    }

    static void promise06_aSwimmerBelow0IsRefused() {
        due("swim(-1, 300)", inStage(1).swim(-1, 300), INVALID);
        due("swim(MIN, 300)", inStage(1).swim(MIN, 300), INVALID);
    }

    static void promise06_theLastSwimmerIsTheGreatest() {
        GalaHeats gala = inStage(1);
        due("swim(4, 300)", gala.swim(4, 300), 0);
        due("swimmer(4, 5)", gala.swimmer(4, 5), 300);
    }

    static void promise06_oneBehindTheLastSwimmerIsRefused() {
        due("swim(5, 300)", inStage(1).swim(5, 300), INVALID);
        due("swim(MAX, 300)", inStage(1).swim(MAX, 300), INVALID);
    }

    static void promise06_withoutSwimmersEachIsRefused() {
        due("swim(0, 300)", new GalaHeats().swim(0, 300), INVALID);
    }

    static void promise06_theTime100IsTheLeast() {
        GalaHeats gala = inStage(1);
        due("swim(0, 100)", gala.swim(0, 100), 0);
        due("swimmer(0, 5)", gala.swimmer(0, 5), 100);
    }

    static void promise06_theTime99IsRefused() {
        due("swim(0, 99)", inStage(1).swim(0, 99), INVALID);
    }

    static void promise06_theTime999IsTheGreatest() {
        GalaHeats gala = inStage(1);
        due("swim(0, 999)", gala.swim(0, 999), 0);
        due("swimmer(0, 5)", gala.swimmer(0, 5), 999);
    }

    static void promise06_theTime1000IsRefused() {
        due("swim(0, 1000)", inStage(1).swim(0, 1000), INVALID);
        due("swim(0, MAX)", inStage(1).swim(0, MAX), INVALID);
    }

    static void promise06_theTime0Returns100() {
        GalaHeats gala = inStage(1);
        due("the first one", gala.swim(0, 0), 100);
        due("swimmer(0, 5)", gala.swimmer(0, 5), 0);
        gala.swim(1, 300);
        due("with a time ahead", gala.swim(2, 0), 100);
        GalaHeats last = inStage(2);
        due("in the final", last.swim(0, 0), 100);
        due("swimmer(0, 8)", last.swimmer(0, 8), 0);
    }

    static void promise06_theTime1IsRefused() {
        due("swim(0, 1)", inStage(1).swim(0, 1), INVALID);
    }

    static void promise06_aTimeBelow0IsRefused() {
        due("swim(0, -1)", inStage(1).swim(0, -1), INVALID);
        due("swim(0, -300)", inStage(1).swim(0, -300), INVALID);
        due("swim(0, MIN)", inStage(1).swim(0, MIN), INVALID);
    }

    static void promise06_theSameTimeIsNotLess() {
        GalaHeats gala = inStage(1);
        due("swim(0, 300)", gala.swim(0, 300), 0);
        due("swim(1, 300)", gala.swim(1, 300), 0);
        due("swim(2, 301)", gala.swim(2, 301), 2);
        due("swim(3, 299)", gala.swim(3, 299), 0);
    }

    static void promise06_aTime0IsNotCounted() {
        GalaHeats gala = inStage(1);
        gala.swim(0, 0);
        gala.swim(1, 0);
        due("swim(2, 300)", gala.swim(2, 300), 0);
    }

    static void promise06_at30SwimmersUpTo29TimesAreLess() {
        GalaHeats gala = drawn(10, rising(30));
        for (int number = 0; number < 30; number++) {
            due("swim(" + number + ", " + (200 + number) + ")", gala.swim(number, 200 + number), number);
        }
    }

    static void promise06_whoSwimsAgainGetsTheNewTime() {
        GalaHeats gala = inStage(1);
        gala.swim(0, 300);
        gala.swim(1, 305);
        due("a greater one", gala.swim(0, 310), 1);
        due("swimmer(0, 5)", gala.swimmer(0, 5), 310);
        due("a lesser one", gala.swim(0, 290), 0);
        due("swimmer(0, 5)", gala.swimmer(0, 5), 290);
        due("there is one of each", gala.count(6), 2);
    }

    static void promise06_theTimeThatIsReplacedIsNotCounted() {
        GalaHeats gala = inStage(1);
        gala.swim(0, 300);
        due("swim(0, 400)", gala.swim(0, 400), 0);
        due("swim(1, 350)", gala.swim(1, 350), 0);
    }

    static void promise06_againWith0TheTimeIsGone() {
        GalaHeats gala = inStage(1);
        gala.swim(0, 300);
        due("swim(0, 0)", gala.swim(0, 0), 100);
        due("swimmer(0, 5)", gala.swimmer(0, 5), 0);
        due("swim(1, 310)", gala.swim(1, 310), 0);
    }

    static void promise06_after0ATimeCanBeSwum() {
        GalaHeats gala = inStage(1);
        gala.swim(0, 0);
        due("swim(0, 300)", gala.swim(0, 300), 0);
        due("swimmer(0, 5)", gala.swimmer(0, 5), 300);
    }

    static void promise06_inTheFinalTheTimesOfTheHeatsAreNotCounted() {
        GalaHeats gala = inStage(2);
        due("swim(3, 900)", gala.swim(3, 900), 0);
        due("swim(2, 901)", gala.swim(2, 901), 1);
    }

    static void promise06_inTheFinalTheTimeOfTheHeatStays() {
        GalaHeats gala = inStage(2);
        gala.swim(0, 280);
        dueSwimmer(gala, 0, 5, 300, 0, 2, 280);
        gala.swim(0, 290);
        due("swimmer(0, 8)", gala.swimmer(0, 8), 290);
    }

    static void promise06_inTheStage0ItIsNotPossible() {
        due("swim(0, 300)", inStage(0).swim(0, 300), IMPOSSIBLE);
    }

    static void promise06_inTheStage3ItIsNotPossible() {
        GalaHeats gala = inStage(3);
        due("one of the final", gala.swim(0, 300), IMPOSSIBLE);
        due("one of the heats", gala.swim(4, 300), IMPOSSIBLE);
    }

    static void promise06_inTheStage0OfTheNextEventItIsNotPossible() {
        GalaHeats gala = inStage(3);
        gala.next();
        due("swim(0, 300)", gala.swim(0, 300), IMPOSSIBLE);
    }

    static void promise06_whoScratchedInTheStage0IsInNoHeat() {
        GalaHeats gala = inStage(0);
        gala.scratch(1);
        gala.draw();
        due("swim(1, 300)", gala.swim(1, 300), IMPOSSIBLE);
    }

    static void promise06_whoScratchedInTheStage1IsInNoHeat() {
        GalaHeats gala = inStage(1);
        gala.scratch(1);
        due("swim(1, 300)", gala.swim(1, 300), IMPOSSIBLE);
        due("swim(1, 0)", gala.swim(1, 0), IMPOSSIBLE);
    }

    static void promise06_whoScratchedInTheStage2IsNotInTheFinal() {
        GalaHeats gala = inStage(2);
        gala.scratch(1);
        due("swim(1, 300)", gala.swim(1, 300), IMPOSSIBLE);
    }

    static void promise06_aReserveIsNotInTheFinal() {
        due("swim(4, 300)", inStage(2).swim(4, 300), IMPOSSIBLE);
    }

    static void promise06_aReserveWhoWasCalledIsInTheFinal() {
        GalaHeats gala = inStage(2);
        gala.scratch(1);
        due("swim(4, 300)", gala.swim(4, 300), 0);
        due("swimmer(4, 8)", gala.swimmer(4, 8), 300);
    }

    static void promise06_whoHadNoTimeInTheHeatsIsNotInTheFinal() {
        GalaHeats gala = inFinal(4, 300, 0);
        due("swim(1, 300)", gala.swim(1, 300), IMPOSSIBLE);
    }

    static void promise06_invalidArgumentRatherThanNotPossible() {
        due("the time, in the stage 0", inStage(0).swim(0, 99), INVALID);
        due("the swimmer, in the stage 0", inStage(0).swim(5, 300), INVALID);
        due("the time, of a reserve", inStage(2).swim(4, 1000), INVALID);
        due("the time, in the stage 3", inStage(3).swim(0, 1), INVALID);
        due("the swimmer, in the stage 3", inStage(3).swim(-1, 300), INVALID);
        GalaHeats gala = inStage(1);
        gala.scratch(0);
        due("the time, of one who scratched", gala.swim(0, -1), INVALID);
    }

    static void promise06_aRefusedCallChangesNothing() {
        dueNothingChanged("swim(5, 300)", () -> inStage(1), gala -> gala.swim(5, 300), INVALID);
        dueNothingChanged("swim(0, 99)", () -> inStage(1), gala -> gala.swim(0, 99), INVALID);
        dueNothingChanged("swim(0, 1000)", () -> inStage(2), gala -> gala.swim(0, 1000), INVALID);
        dueNothingChanged("swim(0, 100)", () -> inStage(0), gala -> gala.swim(0, 100), IMPOSSIBLE);
        dueNothingChanged("swim(4, 100)", () -> inStage(2), gala -> gala.swim(4, 100), IMPOSSIBLE);
        dueNothingChanged("swim(0, 100)", () -> inStage(3), gala -> gala.swim(0, 100), IMPOSSIBLE);
    }

    static void promise06_itIsAChange() {
        dueOneChange("in the stage 1", () -> inStage(1), gala -> gala.swim(0, 150));
        dueOneChange("0 in the stage 1", () -> inStage(1), gala -> gala.swim(0, 0));
        dueOneChange("in the stage 2", () -> inStage(2), gala -> gala.swim(0, 150));
        dueOneChange("the same time again", () -> swum(4, 300, 310), gala -> gala.swim(0, 300));
    }

    // ---- promise 7: finals

    static void promise07_oneWithATimeIsEnough() {
        GalaHeats gala = swum(4, 0, 0, 500);
        due("finals()", gala.finals(), 1 << 2);
        dueLanes(gala, -1, NONE, 2, NONE, NONE);
    }

    static void promise07_fewerThanLanesLeaveLanesFree() {
        GalaHeats gala = swum(4, 300, 310, 290);
        due("finals()", gala.finals(), 7);
        dueLanes(gala, -1, 1, 2, 0, NONE);
        due("count(5)", gala.count(5), 0);
    }

    static void promise07_asManyAsLanesFillTheFinalWithoutReserves() {
        GalaHeats gala = swum(4, 300, 310, 320, 330);
        due("finals()", gala.finals(), 15);
        dueLanes(gala, -1, 2, 0, 1, 3);
        due("reserve(0)", gala.reserve(0), NONE);
    }

    static void promise07_oneMoreThanLanesIsTheFirstReserve() {
        GalaHeats gala = swum(4, 340, 300, 310, 320, 330);
        due("finals()", gala.finals(), 30);
        dueLanes(gala, -1, 3, 1, 2, 4);
        due("reserve(0)", gala.reserve(0), 0);
        due("reserve(1)", gala.reserve(1), NONE);
    }

    static void promise07_behindTheLastReserveOneIsNeither() {
        GalaHeats gala = swum(4, 300, 310, 320, 330, 340, 350, 360);
        due("finals()", gala.finals(), 15);
        due("reserve(0)", gala.reserve(0), 4);
        due("reserve(1)", gala.reserve(1), 5);
        due("reserve(2)", gala.reserve(2), NONE);
        due("count(5)", gala.count(5), 2);
    }

    static void promise07_withTheSetting2At0ThereAreNoReserves() {
        GalaHeats gala = inFinalWithReserves(0, 4, 300, 310, 320, 330, 340);
        due("reserve(0)", gala.reserve(0), NONE);
        due("count(5)", gala.count(5), 0);
    }

    static void promise07_withTheSetting2At4ThereAreUpToFour() {
        GalaHeats gala = inFinalWithReserves(4, 4, 300, 310, 320, 330, 380, 370, 360, 350, 390);
        for (int rank = 0; rank < 4; rank++) {
            due("reserve(" + rank + ")", gala.reserve(rank), 7 - rank);
        }
        due("reserve(4)", gala.reserve(4), NONE);
    }

    static void promise07_whoHasTheTime0IsNeitherInItNorAReserve() {
        GalaHeats gala = swum(4, 0, 300, 310, 320, 330, 0);
        due("finals()", gala.finals(), 30);
        due("reserve(0)", gala.reserve(0), NONE);
    }

    static void promise07_ofTheSameTimeTheOneAheadByEntryIsAhead() {
        GalaHeats gala = drawn(4, 300, 0, 290, 310, 0, 305, 280);
        swimAll(gala, 400, 400, 400, 390, 400, 0, 380);
        due("finals()", gala.finals(), 1 | 1 << 2 | 1 << 3 | 1 << 6);
        dueLanes(gala, -1, 2, 6, 3, 0);
        due("one without an entry time", gala.reserve(0), 1);
        due("another one, with a greater number", gala.reserve(1), 4);
    }

    static void promise07_ofTheSameTimeAndEntryTimeTheLowestNumberIsAhead() {
        GalaHeats gala = drawn(4, 300, 300, 300, 300, 300);
        swimAll(gala, 310, 310, 310, 310, 310);
        due("finals()", gala.finals(), 15);
        dueLanes(gala, -1, 2, 0, 1, 3);
        due("reserve(0)", gala.reserve(0), 4);
    }

    static void promise07_aLesserTimeIsAheadOfALesserEntryTime() {
        GalaHeats gala = drawn(4, 100, 999);
        swimAll(gala, 301, 300);
        gala.finals();
        dueLanes(gala, -1, NONE, 1, 0, NONE);
    }

    static void promise07_aTimeThatWasSwumAgainDecides() {
        GalaHeats gala = swum(4, 300, 310, 320, 330, 340);
        gala.swim(0, 350);
        due("finals()", gala.finals(), 30);
        due("reserve(0)", gala.reserve(0), 0);
    }

    static void promise07_whoScratchedInTheStage1IsNotInIt() {
        GalaHeats gala = swum(4, 300, 310, 320, 330, 340);
        gala.scratch(0);
        due("finals()", gala.finals(), 30);
        due("count(5)", gala.count(5), 0);
    }

    static void promise07_theSwimmer29IsTheLastBitOfTheSet() {
        GalaHeats gala = swum(4, falling(30));
        due("finals()", gala.finals(), 15 << 26);
        dueLanes(gala, -1, 27, 29, 28, 26);
    }

    static void promise07_theStageIs2Then() {
        GalaHeats gala = swum(4, 300);
        gala.finals();
        due("count(0)", gala.count(0), 2);
    }

    static void promise07_ifSomebodyHasNotSwumItIsNotPossible() {
        GalaHeats gala = inStage(1);
        swimAll(gala, 300, 310, 320, 330);
        due("finals()", gala.finals(), IMPOSSIBLE);
    }

    static void promise07_ifTheOneWhoHasNotSwumScratchesItIsPossible() {
        GalaHeats gala = inStage(1);
        swimAll(gala, 300, 310, 320, 330);
        gala.scratch(4);
        due("finals()", gala.finals(), 15);
    }

    static void promise07_ifNobodyHasATimeAbove0ItIsNotPossible() {
        due("finals()", swum(4, 0, 0).finals(), IMPOSSIBLE);
    }

    static void promise07_ifAllScratchedItIsNotPossible() {
        GalaHeats gala = swum(4, 300);
        gala.scratch(0);
        due("finals()", gala.finals(), IMPOSSIBLE);
    }

    static void promise07_inTheStage0ItIsNotPossible() {
        due("finals()", inStage(0).finals(), IMPOSSIBLE);
        due("without swimmers", new GalaHeats().finals(), IMPOSSIBLE);
    }

    static void promise07_inTheStage2ItIsNotPossible() {
        GalaHeats gala = inStage(2);
        due("finals()", gala.finals(), IMPOSSIBLE);
        swimAll(gala, 300, 310, 320, 330);
        due("when all have swum", gala.finals(), IMPOSSIBLE);
    }

    static void promise07_inTheStage3ItIsNotPossible() {
        due("finals()", inStage(3).finals(), IMPOSSIBLE);
    }

    static void promise07_aRefusedCallChangesNothing() {
        dueNothingChanged("in the stage 0", () -> inStage(0), GalaHeats::finals, IMPOSSIBLE);
        dueNothingChanged("somebody has not swum", () -> inStage(1), GalaHeats::finals, IMPOSSIBLE);
        dueNothingChanged("nobody has a time", () -> swum(4, 0, 0), GalaHeats::finals, IMPOSSIBLE);
        dueNothingChanged("in the stage 2", () -> inStage(2), GalaHeats::finals, IMPOSSIBLE);
        dueNothingChanged("in the stage 3", () -> inStage(3), GalaHeats::finals, IMPOSSIBLE);
    }

    static void promise07_itIsAChange() {
        dueOneChange("finals()", () -> swum(4, 300, 310, 320, 330, 340, 350), GalaHeats::finals);
    }

    // ---- promise 8: end

    static void promise08_thePlacesAreFrom1On() {
        GalaHeats gala = inStage(2);
        swimAll(gala, 303, 301, 304, 302);
        due("end()", gala.end(), 2);
        due("swimmer(1, 9)", gala.swimmer(1, 9), 1);
        due("swimmer(3, 9)", gala.swimmer(3, 9), 2);
        due("swimmer(0, 9)", gala.swimmer(0, 9), 3);
        due("swimmer(2, 9)", gala.swimmer(2, 9), 4);
    }

    static void promise08_twoOnThePlace1LeaveOutThePlace2() {
        GalaHeats gala = inStage(2);
        swimAll(gala, 300, 301, 300, 302);
        due("end()", gala.end(), 5);
        due("swimmer(0, 9)", gala.swimmer(0, 9), 1);
        due("swimmer(2, 9)", gala.swimmer(2, 9), 1);
        due("swimmer(1, 9)", gala.swimmer(1, 9), 3);
        due("swimmer(3, 9)", gala.swimmer(3, 9), 4);
    }

    static void promise08_twoOnThePlace2LeaveOutThePlace3() {
        GalaHeats gala = inStage(2);
        swimAll(gala, 301, 300, 302, 301);
        due("end()", gala.end(), 2);
        due("swimmer(0, 9)", gala.swimmer(0, 9), 2);
        due("swimmer(3, 9)", gala.swimmer(3, 9), 2);
        due("swimmer(2, 9)", gala.swimmer(2, 9), 4);
    }

    static void promise08_threeOnThePlace1AreFollowedByThePlace4() {
        GalaHeats gala = inStage(2);
        swimAll(gala, 300, 300, 301, 300);
        due("end()", gala.end(), 11);
        due("swimmer(2, 9)", gala.swimmer(2, 9), 4);
    }

    static void promise08_allOnThePlace1() {
        GalaHeats gala = inStage(2);
        swimAll(gala, 999, 999, 999, 999);
        due("end()", gala.end(), 15);
        due("(5 + 3 + 2 + 1) * 2 / 4, rounded down", gala.swimmer(3, 11), 5);
        due("all clubs", gala.count(11), 20);
    }

    static void promise08_whoHasTheTime0HasNoPlaceAndBringsNothing() {
        GalaHeats gala = inStage(2);
        swimAll(gala, 300, 0, 301, 302);
        due("end()", gala.end(), 1);
        dueSwimmer(gala, 1, 8, 0, NONE, 0, 0);
        due("the next ones move up", gala.swimmer(2, 9), 2);
        due("points(1)", gala.points(1), 0);
    }

    static void promise08_ifNobodyHasATimeItReturns0() {
        GalaHeats gala = inStage(2);
        swimAll(gala, 0, 0, 0, 0);
        due("end()", gala.end(), 0);
        due("count(0)", gala.count(0), 3);
        due("count(11)", gala.count(11), 0);
    }

    static void promise08_ifAllInTheFinalScratchedItReturns0() {
        GalaHeats gala = inFinal(4, 300, 310);
        gala.scratch(0);
        gala.scratch(1);
        due("end()", gala.end(), 0);
        due("count(0)", gala.count(0), 3);
    }

    static void promise08_ofOneInTheFinalThePlaceIs1() {
        GalaHeats gala = inFinal(4, 300);
        gala.swim(0, 999);
        due("end()", gala.end(), 1);
        due("swimmer(0, 11)", gala.swimmer(0, 11), 10);
    }

    static void promise08_theSwimmer29IsTheLastBitOfTheSet() {
        GalaHeats gala = inFinal(4, falling(30));
        swimAll(gala, timesOfTheLastFour());
        due("end()", gala.end(), 1 << 29);
        due("its club", gala.points(5), 10);
    }

    /** The final of falling(30) is of 26 to 29: 29 is the fastest there too. */
    private static int[] timesOfTheLastFour() {
        int[] times = new int[30];
        for (int number = 0; number < 30; number++) {
            times[number] = number < 26 ? -1 : 400 - number;
        }
        return times;
    }

    static void promise08_with4LanesTheyBring5And3And2And1() {
        GalaHeats gala = over(4, 300, 310, 320, 330);
        due("the place 1", gala.swimmer(0, 11), 10);
        due("the place 2", gala.swimmer(1, 11), 6);
        due("the place 3", gala.swimmer(2, 11), 4);
        due("the last place", gala.swimmer(3, 11), 2);
    }

    static void promise08_with10LanesTheyBringFrom11DownTo1() {
        GalaHeats gala = over(10, rising(10));
        due("the place 1", gala.swimmer(0, 11), 22);
        for (int number = 1; number < 10; number++) {
            due("the place " + (number + 1), gala.swimmer(number, 11), 2 * (10 - number));
        }
    }

    static void promise08_twoOnThePlace1ShareTheOneMoreToo() {
        GalaHeats gala = inStage(2);
        swimAll(gala, 300, 300, 301, 302);
        gala.end();
        due("(5 + 3) * 2 / 2", gala.swimmer(0, 11), 8);
        due("the other one", gala.swimmer(1, 11), 8);
        due("the place 3", gala.swimmer(2, 11), 4);
    }

    static void promise08_anOddShareIsAHalfPoint() {
        GalaHeats gala = inStage(2);
        swimAll(gala, 300, 301, 301, 302);
        gala.end();
        due("(3 + 2) * 2 / 2", gala.swimmer(1, 11), 5);
        due("the other one", gala.swimmer(2, 11), 5);
        due("all clubs", gala.count(11), 22);
    }

    static void promise08_twoOnTheLastPlacesShareThem() {
        GalaHeats gala = inStage(2);
        swimAll(gala, 300, 301, 302, 302);
        gala.end();
        due("(2 + 1) * 2 / 2", gala.swimmer(3, 11), 3);
    }

    static void promise08_aShareIsRoundedDown() {
        GalaHeats gala = inFinal(6, 300, 310, 320, 330, 340, 350);
        swimAll(gala, 200, 200, 200, 200, 300, 300);
        due("end()", gala.end(), 15);
        due("(7 + 5 + 4 + 3) * 2 / 4, rounded down", gala.swimmer(0, 11), 9);
        due("each of them", gala.swimmer(3, 11), 9);
        due("(2 + 1) * 2 / 2", gala.swimmer(5, 11), 3);
        due("all clubs", gala.count(11), 42);
    }

    static void promise08_whoWasCalledGetsAPlace() {
        GalaHeats gala = inStage(2);
        gala.scratch(0);
        swimAll(gala, -1, 310, 320, 330, 300);
        due("end()", gala.end(), 1 << 4);
        due("swimmer(4, 11)", gala.swimmer(4, 11), 10);
        dueSwimmer(gala, 0, 9, NONE, 1, 0);
    }

    static void promise08_aLaneThatStayedFreeHoldsNothingUp() {
        GalaHeats gala = inFinal(4, 300, 310);
        gala.scratch(0);
        due("swim(1, 300)", gala.swim(1, 300), 0);
        due("end()", gala.end(), 2);
    }

    static void promise08_halfPointsOfSeveralEventsComeTogether() {
        GalaHeats gala = over(4, 300, 310);
        gala.next();
        gala.draw();
        swimAll(gala, 300, 310);
        gala.finals();
        swimAll(gala, 311, 310);
        due("end()", gala.end(), 2);
        due("swimmer(0, 11)", gala.swimmer(0, 11), 16);
        due("swimmer(1, 11)", gala.swimmer(1, 11), 16);
        due("swimmer(1, 9)", gala.swimmer(1, 9), 1);
    }

    static void promise08_theStageIs3AndOneMoreEventEnded() {
        GalaHeats gala = inFinal(4, 300);
        gala.swim(0, 300);
        due("count(7)", gala.count(7), 0);
        gala.end();
        due("count(0)", gala.count(0), 3);
        due("count(7)", gala.count(7), 1);
    }

    static void promise08_ifSomebodyHasNotSwumItIsNotPossible() {
        GalaHeats gala = inStage(2);
        swimAll(gala, 300, 310, 320);
        due("end()", gala.end(), IMPOSSIBLE);
        gala.swim(3, 0);
        due("end(), with 0", gala.end(), 1);
    }

    static void promise08_ifTheOneWhoWasCalledHasNotSwumItIsNotPossible() {
        GalaHeats gala = inStage(2);
        swimAll(gala, 300, 310, 320, 330);
        gala.scratch(0);
        due("end()", gala.end(), IMPOSSIBLE);
        gala.scratch(4);
        due("end(), when this one scratched too", gala.end(), 2);
    }

    static void promise08_inTheStage0ItIsNotPossible() {
        due("end()", inStage(0).end(), IMPOSSIBLE);
    }

    static void promise08_inTheStage1ItIsNotPossible() {
        due("end()", inStage(1).end(), IMPOSSIBLE);
        due("when all have swum", swum(4, 300, 310).end(), IMPOSSIBLE);
    }

    static void promise08_inTheStage3ItIsNotPossible() {
        GalaHeats gala = inStage(3);
        due("end()", gala.end(), IMPOSSIBLE);
        due("count(7)", gala.count(7), 1);
    }

    static void promise08_aRefusedCallChangesNothing() {
        dueNothingChanged("in the stage 0", () -> inStage(0), GalaHeats::end, IMPOSSIBLE);
        dueNothingChanged("in the stage 1", () -> swum(4, 300, 310), GalaHeats::end, IMPOSSIBLE);
        dueNothingChanged("somebody has not swum", () -> inStage(2), GalaHeats::end, IMPOSSIBLE);
        dueNothingChanged("in the stage 3", () -> inStage(3), GalaHeats::end, IMPOSSIBLE);
    }

    static void promise08_itIsAChange() {
        dueOneChange("end()", () -> {
            GalaHeats gala = inStage(2);
            swimAll(gala, 300, 310, 310, 0);
            return gala;
        }, GalaHeats::end);
    }

    static void promise08_itIsAChangeAlsoIfItReturns0() {
        dueOneChange("end()", () -> {
            GalaHeats gala = inFinal(4, 300);
            gala.swim(0, 0);
            return gala;
        }, GalaHeats::end);
    }

    // ---- promise 9: next

    /** One swimmer's entry time in the next event, and what next() returns. */
    private static void dueEntry(int entry, int ofHeat, int ofFinal, int want) {
        GalaHeats gala = drawn(4, entry, 999);
        swimAll(gala, ofHeat, 998);
        gala.finals();
        if (ofHeat > 0) {
            gala.swim(0, ofFinal);
        }
        gala.swim(1, 0);
        dueTaken("end()", gala.end());
        String times = entry + ", " + ofHeat + ", " + ofFinal;
        due(times + ": next()", gala.next(), want == entry ? 1 : 2);
        due(times + ": swimmer(0, 1)", gala.swimmer(0, 1), want);
        due("the other one", gala.swimmer(1, 1), 998);
    }

    static void promise09_theTimeOfTheHeatIsTheLeast() {
        dueEntry(300, 299, 301, 299);
        dueEntry(300, 298, 299, 298);
    }

    static void promise09_theTimeOfTheFinalIsTheLeast() {
        dueEntry(300, 301, 299, 299);
        dueEntry(300, 299, 298, 298);
    }

    static void promise09_theEntryTimeIsTheLeast() {
        dueEntry(300, 301, 301, 300);
    }

    static void promise09_theSameTimeIsNotBetter() {
        dueEntry(300, 300, 300, 300);
    }

    static void promise09_theTime0OfTheFinalIsNone() {
        dueEntry(300, 301, 0, 300);
        dueEntry(300, 299, 0, 299);
    }

    static void promise09_theTime0OfTheHeatIsNone() {
        dueEntry(300, 0, 0, 300);
    }

    static void promise09_whoHadNoneGetsTheTimeOfTheHeat() {
        dueEntry(0, 299, 301, 299);
        dueEntry(0, 999, 0, 999);
    }

    static void promise09_whoHadNoneGetsTheTimeOfTheFinal() {
        dueEntry(0, 301, 299, 299);
    }

    static void promise09_whoHadNoneAndHasNoTimeHasNone() {
        dueEntry(0, 0, 0, 0);
    }

    static void promise09_theLeastTime100Is() {
        dueEntry(101, 100, 101, 100);
        dueEntry(101, 101, 100, 100);
    }

    static void promise09_whoIsNotInTheFinalGetsTheTimeOfTheHeat() {
        GalaHeats gala = drawn(4, 300, 310, 320, 330, 400);
        swimAll(gala, 300, 310, 320, 330, 340);
        gala.finals();
        swimAll(gala, 300, 310, 320, 330);
        gala.end();
        due("next()", gala.next(), 1);
        due("swimmer(4, 1)", gala.swimmer(4, 1), 340);
    }

    static void promise09_whoScratchedInTheStage1KeepsTheEntryTime() {
        GalaHeats gala = drawn(4, 300, 310);
        swimAll(gala, 200, 310);
        gala.scratch(0);
        gala.finals();
        gala.swim(1, 310);
        gala.end();
        due("next()", gala.next(), 0);
        due("swimmer(0, 1)", gala.swimmer(0, 1), 300);
    }

    static void promise09_whoScratchedInTheStage2GetsTheTimeOfTheHeatAlone() {
        GalaHeats gala = drawn(4, 300, 310);
        swimAll(gala, 290, 310);
        gala.finals();
        swimAll(gala, 280, 310);
        gala.scratch(0);
        gala.end();
        due("next()", gala.next(), 1);
        due("swimmer(0, 1)", gala.swimmer(0, 1), 290);
    }

    static void promise09_ifNoneBecomesBetterItReturns0() {
        due("next()", over(4, 300, 310).next(), 0);
    }

    static void promise09_all30CanBecomeBetter() {
        GalaHeats gala = drawn(4, rising(30));
        for (int number = 0; number < 30; number++) {
            gala.swim(number, 100 + number);
        }
        gala.finals();
        swimAll(gala, 0, 0, 0, 0);
        gala.end();
        due("next()", gala.next(), 30);
        due("swimmer(29, 1)", gala.swimmer(29, 1), 129);
    }

    static void promise09_nobodyIsScratched() {
        GalaHeats gala = inStage(0);
        gala.scratch(0);
        gala.draw();
        swimAll(gala, -1, 310, 320, 330, 340);
        gala.scratch(1);
        gala.finals();
        swimAll(gala, -1, -1, 320, 330, 340);
        gala.scratch(2);
        gala.end();
        due("count(2)", gala.count(2), 7);
        due("next()", gala.next(), 0);
        due("count(2)", gala.count(2), 0);
        for (int number = 0; number < 5; number++) {
            due("swimmer(" + number + ", 10)", gala.swimmer(number, 10), 0);
        }
        due("all are drawn again", gala.draw(), 2);
    }

    static void promise09_nobodyHasATimeAHeatALaneOrAPlace() {
        GalaHeats gala = inStage(3);
        gala.next();
        for (int number = 0; number < 5; number++) {
            dueSwimmer(gala, number, 3, NONE, NONE, NONE, NONE, NONE, NONE, NONE);
        }
        due("count(6)", gala.count(6), 0);
    }

    static void promise09_thereAreNoHeatsAndThereIsNoFinal() {
        GalaHeats gala = inStage(3);
        gala.next();
        due("count(3)", gala.count(3), 0);
        due("count(4)", gala.count(4), 0);
        due("at(0, 1)", gala.at(0, 1), INVALID);
        due("at(-1, 1)", gala.at(-1, 1), INVALID);
    }

    static void promise09_thereAreNoReserves() {
        GalaHeats gala = inStage(3);
        gala.next();
        due("reserve(0)", gala.reserve(0), NONE);
        due("count(5)", gala.count(5), 0);
    }

    static void promise09_reservesAreDrawnAnew() {
        GalaHeats gala = over(4, 300, 310, 320, 330, 340, 350);
        gala.next();
        gala.draw();
        swimAll(gala, 0, 310, 320, 330, 340, 350);
        gala.finals();
        due("reserve(0)", gala.reserve(0), 5);
        due("one alone", gala.reserve(1), NONE);
        due("scratch(1)", gala.scratch(1), 5);
        due("scratch(5)", gala.scratch(5), NOBODY);
    }

    static void promise09_pointsRecordEventsAndSettingsStay() {
        GalaHeats gala = inStage(3);
        int points = gala.count(11);
        gala.next();
        due("points", points, 22);
        due("count(11)", gala.count(11), points);
        due("swimmer(0, 11)", gala.swimmer(0, 11), 10);
        due("count(8)", gala.count(8), 300);
        due("count(9)", gala.count(9), 0);
        due("count(7)", gala.count(7), 1);
        due("count(20)", gala.count(20), 4);
        due("count(21)", gala.count(21), 3);
        due("count(22)", gala.count(22), 2);
    }

    static void promise09_theStageIs0Then() {
        GalaHeats gala = inStage(3);
        gala.next();
        due("count(0)", gala.count(0), 0);
    }

    static void promise09_inTheStage0ItIsNotPossible() {
        due("next()", inStage(0).next(), IMPOSSIBLE);
        due("without swimmers", new GalaHeats().next(), IMPOSSIBLE);
    }

    static void promise09_inTheStage1ItIsNotPossible() {
        due("next()", inStage(1).next(), IMPOSSIBLE);
        due("when all have swum", swum(4, 300).next(), IMPOSSIBLE);
    }

    static void promise09_inTheStage2ItIsNotPossible() {
        GalaHeats gala = inFinal(4, 300);
        due("next()", gala.next(), IMPOSSIBLE);
        gala.swim(0, 300);
        due("when all have swum", gala.next(), IMPOSSIBLE);
    }

    static void promise09_aSecondTimeItIsNotPossible() {
        GalaHeats gala = inStage(3);
        gala.next();
        due("next()", gala.next(), IMPOSSIBLE);
    }

    static void promise09_aRefusedCallChangesNothing() {
        for (int stage = 0; stage <= 2; stage++) {
            int itsStage = stage;
            dueNothingChanged("in the stage " + stage, () -> inStage(itsStage), GalaHeats::next, IMPOSSIBLE);
        }
    }

    static void promise09_itIsAChange() {
        dueOneChange("next()", () -> inStage(3), GalaHeats::next);
        dueOneChange("with better entry times", () -> {
            GalaHeats gala = drawn(4, 300, 0, 310);
            swimAll(gala, 290, 295, 300);
            gala.finals();
            swimAll(gala, 280, 0, 290);
            gala.scratch(1);
            gala.end();
            return gala;
        }, GalaHeats::next);
    }
}
