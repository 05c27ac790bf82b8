/** Promises 23 to 26: type, clearText, fault, play. */
public final class TextsTest extends Checks {
    private static final int FORM = 1;
    private static final int REFUSED = 2;
    private static final String FULL = "e0,300;e0,310;e0,320;e0,330;e0,340;e0,350;e0,360;x0;x1;x2;d;";

    public static void main(String[] args) {
        runCases(TextsTest.class, 23, 26);
    }

    // ---- promise 23: type

    static void promise23_theCharacter32IsTheLeast() {
        due("type(32)", new GalaHeats().type(32), 1);
    }

    static void promise23_theCharacter31IsRefused() {
        due("type(31)", new GalaHeats().type(31), INVALID);
        due("type(0)", new GalaHeats().type(0), INVALID);
        due("type(-1)", new GalaHeats().type(-1), INVALID);
        due("type(MIN)", new GalaHeats().type(MIN), INVALID);
    }

    static void promise23_theCharacter126IsTheGreatest() {
        due("type(126)", new GalaHeats().type(126), 1);
    }

    static void promise23_theCharacter127IsRefused() {
        due("type(127)", new GalaHeats().type(127), INVALID);
        due("type(65536 and 100, together)", new GalaHeats().type(65536 + 100), INVALID);
        due("type(MAX)", new GalaHeats().type(MAX), INVALID);
    }

    static void promise23_the60thCharacterFillsTheText() {
        GalaHeats gala = new GalaHeats();
        for (int length = 1; length <= 60; length++) {
            due("type('d')", gala.type('d'), length);
        }
        due("count(13)", gala.count(13), 60);
    }

    static void promise23_the61stCharacterIsOverTheLimit() {
        GalaHeats gala = withText(new GalaHeats(), FULL);
        due("type('d')", gala.type('d'), LIMIT);
        due("count(13)", gala.count(13), 60);
    }

    static void promise23_afterClearTextThereIsRoomFor60Again() {
        GalaHeats gala = withText(new GalaHeats(), FULL);
        gala.clearText();
        typeAll(gala, FULL);
        due("one more", gala.type('d'), LIMIT);
    }

    static void promise23_invalidArgumentRatherThanTheLimit() {
        GalaHeats gala = withText(new GalaHeats(), FULL);
        due("type(31)", gala.type(31), INVALID);
        due("type(127)", gala.type(127), INVALID);
    }

    static void promise23_aRefusedCallChangesNothing() {
        dueNothingChanged("type(127)", () -> withText(inStage(0), "d;"), gala -> gala.type(127), INVALID);
        dueNothingChanged("type(31)", GalaHeats::new, gala -> gala.type(31), INVALID);
        dueNothingChanged("type(';')", () -> withText(inStage(0), FULL), gala -> gala.type(';'), LIMIT);
    }

    static void promise23_aRefusedCharacterDoesNotGetIntoTheText() {
        GalaHeats gala = new GalaHeats();
        gala.type('e');
        gala.type(127);
        for (char sign : "0,300;".toCharArray()) {
            gala.type(sign);
        }
        due("play()", gala.play(), 1);
    }

    static void promise23_itIsPossibleInEachStage() {
        for (int stage = 0; stage <= 3; stage++) {
            due("type('d')", inStage(stage).type('d'), 1);
        }
    }

    static void promise23_itIsNoChange() {
        dueNoChange("type('d')", () -> inStage(0), gala -> gala.type('d'));
        GalaHeats gala = new GalaHeats();
        gala.type('d');
        due("count(12)", gala.count(12), 0);
    }

    // ---- promise 24: clearText

    static void promise24_anEmptyTextHad0() {
        due("clearText()", new GalaHeats().clearText(), 0);
    }

    static void promise24_aTextOfOneCharacterHad1() {
        due("clearText()", withText(new GalaHeats(), "d").clearText(), 1);
    }

    static void promise24_aFullTextHad60() {
        due("clearText()", withText(new GalaHeats(), FULL).clearText(), 60);
    }

    static void promise24_theTextIsEmptyThen() {
        GalaHeats gala = withText(new GalaHeats(), "e0,300;q");
        gala.clearText();
        due("count(13)", gala.count(13), 0);
        due("clearText()", gala.clearText(), 0);
        due("fault(0)", gala.fault(0), NONE);
        due("play()", gala.play(), 0);
    }

    static void promise24_nothingOfTheTextIsLeftBehindTheNewOne() {
        GalaHeats gala = withText(new GalaHeats(), "e0,300;");
        gala.clearText();
        gala.type('e');
        due("fault(0)", gala.fault(0), 0);
        due("fault(1)", gala.fault(1), FORM);
        due("fault(2)", gala.fault(2), 1);
    }

    static void promise24_itIsNoChange() {
        dueNoChange("clearText()", () -> withText(inStage(0), "d;"), GalaHeats::clearText);
        GalaHeats gala = withText(new GalaHeats(), "d;");
        gala.clearText();
        due("count(12)", gala.count(12), 0);
    }

    // ---- promise 25: fault

    /** The whole fault of a text, each part by its own call; and the text stays. */
    private static void dueFault(GalaHeats gala, String text, int position, int reason, int cause) {
        typeAll(gala, text);
        due("\"" + text + "\": fault(0)", gala.fault(0), position);
        due("\"" + text + "\": fault(1)", gala.fault(1), reason);
        due("\"" + text + "\": fault(2)", gala.fault(2), cause);
        due("\"" + text + "\": count(13)", gala.count(13), text.length());
    }

    private static void dueNoFault(GalaHeats gala, String text) {
        typeAll(gala, text);
        for (int what = 0; what < 3; what++) {
            due("\"" + text + "\": fault(" + what + ")", gala.fault(what), NONE);
        }
    }

    /** The order breaks off there, alone and behind another one. */
    private static void dueBreak(String order, int where) {
        dueFault(new GalaHeats(), order, 0, FORM, where);
        dueFault(new GalaHeats(), "e3,300;" + order, 7, FORM, where);
    }

    static void promise25_aWhatBelow0IsRefused() {
        due("fault(-1)", withText(new GalaHeats(), "q").fault(-1), INVALID);
        due("fault(MIN)", withText(new GalaHeats(), "q").fault(MIN), INVALID);
    }

    static void promise25_theWhat0IsThePosition() {
        due("fault(0)", withText(new GalaHeats(), "e0,300;q").fault(0), 7);
    }

    static void promise25_theWhat2IsTheCause() {
        due("fault(2)", withText(new GalaHeats(), "e0,300;d;d;").fault(2), IMPOSSIBLE);
    }

    static void promise25_theWhat3IsRefused() {
        due("fault(3)", withText(new GalaHeats(), "q").fault(3), INVALID);
        due("fault(MAX)", withText(new GalaHeats(), "q").fault(MAX), INVALID);
    }

    static void promise25_anEmptyTextHasNone() {
        dueNoFault(new GalaHeats(), "");
        dueNoFault(inStage(2), "");
    }

    static void promise25_aTextOfPossibleOrdersHasNone() {
        dueNoFault(new GalaHeats(), "e0,300;");
        dueNoFault(new GalaHeats(), "e0,300;e1,310;x1;d;s0,299;f;s0,298;o;n;");
    }

    static void promise25_aFullTextOfPossibleOrdersHasNone() {
        dueNoFault(new GalaHeats(), FULL);
    }

    static void promise25_invalidArgumentRatherThanNotFound() {
        due("an empty text", new GalaHeats().fault(3), INVALID);
        due("an empty text", new GalaHeats().fault(-1), INVALID);
        due("a text without a fault", withText(new GalaHeats(), "e0,300;").fault(3), INVALID);
    }

    static void promise25_anotherFirstCharacterBreaksOffAt0() {
        for (String order : new String[] {";", ",", " ", "0", "a;", "c", "g", "m;", "p;", "r;", "t0,300;", "w0;", "y0;", "~",
            "E0,300;", "S0,300;", "X0;", "D;", "F;", "O;", "N;"}) {
            dueBreak(order, 0);
        }
    }

    static void promise25_withoutANumberBehindItsLetterItBreaksOffAt1() {
        for (String order : new String[] {"e;", "e,300;", "e-1,300;", "e 0,300;", "e/,300;", "e:,300;", "ee0,300;",
            "s;", "s,300;", "s+1,300;", "s/", "s:", "x;", "x,", "x-1;", "x/;", "x:;", "xx0;"}) {
            dueBreak(order, 1);
        }
    }

    static void promise25_theDigits0And9AreOfTheForm() {
        dueNoFault(new GalaHeats(), "e0,900;");
        dueNoFault(inStage(1), "s0,999;s4,100;s3,0;");
        dueFault(inStage(0), "x9;", 0, REFUSED, INVALID);
        dueNoFault(inStage(0), "x0;");
    }

    static void promise25_withoutACommaItBreaksOffBehindTheFirstNumber() {
        dueBreak("e0;", 2);
        dueBreak("e0 300;", 2);
        dueBreak("e0.300;", 2);
        dueBreak("e00;", 3);
        dueBreak("e000;", 4);
        dueBreak("s0;", 2);
        dueBreak("s12;", 3);
        dueBreak("s123x300;", 4);
    }

    static void promise25_withoutASecondNumberItBreaksOffBehindTheComma() {
        dueBreak("e0,;", 3);
        dueBreak("e0,,300;", 3);
        dueBreak("e0, 300;", 3);
        dueBreak("e00,-1;", 4);
        dueBreak("s0,;", 3);
        dueBreak("s012,x;", 5);
    }

    static void promise25_withoutASemicolonItBreaksOffBehindTheLastNumber() {
        dueBreak("e0,300,", 6);
        dueBreak("e0,300 ;", 6);
        dueBreak("e0,300e0,300;", 6);
        dueBreak("e0,1:", 4);
        dueBreak("s0,300d;", 6);
        dueBreak("s012,300d;", 8);
        dueBreak("x0,", 2);
        dueBreak("x0 ;", 2);
        dueBreak("x012d;", 4);
    }

    static void promise25_withoutASemicolonItBreaksOffBehindALetterAlone() {
        for (String order : new String[] {"dd;", "d0;", "d ;", "d,", "f0;", "fd;", "o1;", "oo", "n:", "n,"}) {
            dueBreak(order, 1);
        }
    }

    static void promise25_numbersOf1To3DigitsAreOfTheForm() {
        dueNoFault(new GalaHeats(), "e5,0;e05,00;e005,000;e5,100;");
        dueNoFault(inStage(1), "s0,0;s00,00;s000,000;s004,999;x1;x02;x003;");
    }

    static void promise25_aFourthDigitBreaksOff() {
        dueBreak("e0000,300;", 4);
        dueBreak("e0,3000;", 6);
        dueBreak("e0,0000;", 6);
        dueBreak("e000,1000;", 8);
        dueBreak("s0000,300;", 4);
        dueBreak("s0,3000;", 6);
        dueBreak("x0000;", 4);
        dueBreak("x1234;", 4);
    }

    static void promise25_anOrderThatTheTextEndsTooEarlyBreaksOffAtItsLength() {
        String[] orders = {"e012,345", "s012,345", "x012", "d", "f", "o", "n"};
        for (String order : orders) {
            for (int length = 1; length <= order.length(); length++) {
                dueBreak(order.substring(0, length), length);
            }
        }
    }

    static void promise25_anOrderThatAFullTextEndsTooEarlyBreaksOffAtItsLength() {
        dueFault(new GalaHeats(), FULL.substring(0, 59) + " ", 58, FORM, 1);
        dueFault(new GalaHeats(), FULL.substring(0, 58) + "x1", 58, FORM, 2);
        dueFault(new GalaHeats(), FULL.substring(0, 58) + ";d", 58, FORM, 0);
        dueFault(new GalaHeats(), FULL.substring(0, 52) + "e000,999", 52, FORM, 8);
    }

    static void promise25_nothingIsAllowedBetweenOrders() {
        dueFault(new GalaHeats(), "e0,300; d;", 7, FORM, 0);
        dueFault(new GalaHeats(), "e0,300;;d;", 7, FORM, 0);
        dueFault(new GalaHeats(), " e0,300;", 0, FORM, 0);
        dueFault(new GalaHeats(), "e0,300;d; ", 9, FORM, 0);
    }

    static void promise25_invalidArgumentIsACause() {
        dueFault(new GalaHeats(), "e6,300;", 0, REFUSED, INVALID);
        dueFault(new GalaHeats(), "e999,300;", 0, REFUSED, INVALID);
        dueFault(new GalaHeats(), "e0,99;", 0, REFUSED, INVALID);
        dueFault(new GalaHeats(), "e0,1;", 0, REFUSED, INVALID);
        dueFault(new GalaHeats(), "x0;", 0, REFUSED, INVALID);
        dueFault(new GalaHeats(), "s0,300;", 0, REFUSED, INVALID);
        dueFault(inStage(1), "s0,99;", 0, REFUSED, INVALID);
        dueFault(inStage(1), "s5,300;", 0, REFUSED, INVALID);
        dueFault(inStage(0), "x999;", 0, REFUSED, INVALID);
    }

    static void promise25_notPossibleIsACauseOfEachOrder() {
        dueFault(inStage(1), "e0,300;", 0, REFUSED, IMPOSSIBLE);
        dueFault(inStage(0), "s0,300;", 0, REFUSED, IMPOSSIBLE);
        dueFault(inStage(3), "x0;", 0, REFUSED, IMPOSSIBLE);
        dueFault(inStage(1), "d;", 0, REFUSED, IMPOSSIBLE);
        dueFault(new GalaHeats(), "d;", 0, REFUSED, IMPOSSIBLE);
        dueFault(inStage(1), "f;", 0, REFUSED, IMPOSSIBLE);
        dueFault(inStage(2), "o;", 0, REFUSED, IMPOSSIBLE);
        dueFault(inStage(2), "n;", 0, REFUSED, IMPOSSIBLE);
    }

    static void promise25_theLimitIsACause() {
        GalaHeats gala = entered(8, rising(29));
        dueFault(gala, "e1,400;e1,400;", 7, REFUSED, LIMIT);
        due("count(1)", gala.count(1), 29);
        dueFault(entered(8, rising(30)), "e1,400;", 0, REFUSED, LIMIT);
    }

    static void promise25_theCauseIsTheErrorThatIsToldRatherThanOthers() {
        dueFault(inStage(1), "e6,300;", 0, REFUSED, INVALID);
        dueFault(entered(8, rising(30)), "e6,300;", 0, REFUSED, INVALID);
        dueFault(drawn(8, rising(30)), "e0,300;", 0, REFUSED, IMPOSSIBLE);
        dueFault(inStage(3), "x5;", 0, REFUSED, INVALID);
        dueFault(inStage(0), "s0,99;", 0, REFUSED, INVALID);
    }

    static void promise25_theOrdersAheadAreDone() {
        dueFault(new GalaHeats(), "e0,300;e1,310;d;e2,320;", 16, REFUSED, IMPOSSIBLE);
        dueFault(new GalaHeats(), "e0,300;x0;x0;", 10, REFUSED, IMPOSSIBLE);
        dueFault(new GalaHeats(), "e0,300;x1;", 7, REFUSED, INVALID);
        dueFault(new GalaHeats(), "e0,300;x0;d;", 10, REFUSED, IMPOSSIBLE);
        dueFault(new GalaHeats(), "e0,300;d;f;", 9, REFUSED, IMPOSSIBLE);
        dueFault(new GalaHeats(), "e0,300;d;s0,0;f;", 14, REFUSED, IMPOSSIBLE);
        dueFault(new GalaHeats(), "e0,300;d;s0,300;f;o;", 18, REFUSED, IMPOSSIBLE);
        dueFault(new GalaHeats(), "e0,300;d;s0,300;f;s0,300;n;", 25, REFUSED, IMPOSSIBLE);
        dueFault(new GalaHeats(), "e0,300;d;s0,300;f;s0,300;o;n;n;", 29, REFUSED, IMPOSSIBLE);
    }

    static void promise25_itIsTheFirstOrderThatIsNotPossible() {
        dueFault(new GalaHeats(), "e0,300;x0;x0;q", 10, REFUSED, IMPOSSIBLE);
        dueFault(new GalaHeats(), "e0,300;q;x0;x0;", 7, FORM, 0);
        dueFault(new GalaHeats(), "e6,300;x0;", 0, REFUSED, INVALID);
        dueFault(new GalaHeats(), "d;e0,300", 0, REFUSED, IMPOSSIBLE);
    }

    static void promise25_theFormIsToldRatherThanTheRefusal() {
        dueFault(new GalaHeats(), "e9,300", 0, FORM, 6);
        dueFault(new GalaHeats(), "e9,1000;", 0, FORM, 6);
        dueFault(new GalaHeats(), "d ;", 0, FORM, 1);
    }

    static void promise25_theLastOrderOfAFullTextIsRefused() {
        dueFault(new GalaHeats(), FULL.substring(0, 58) + "f;", 58, REFUSED, IMPOSSIBLE);
    }

    static void promise25_itIsByTheStateOfNow() {
        GalaHeats gala = withText(new GalaHeats(), "e0,300;d;");
        due("in the stage 0", gala.fault(0), NONE);
        gala.enter(0, 300);
        gala.draw();
        due("in the stage 1: fault(0)", gala.fault(0), 0);
        due("in the stage 1: fault(2)", gala.fault(2), IMPOSSIBLE);
        gala.undo();
        due("in the stage 0 again", gala.fault(0), NONE);
    }

    static void promise25_thePartsAreToldInAnyOrder() {
        GalaHeats gala = withText(new GalaHeats(), "e0,300;d;d;");
        due("fault(2)", gala.fault(2), IMPOSSIBLE);
        due("fault(1)", gala.fault(1), REFUSED);
        due("fault(0)", gala.fault(0), 9);
        due("fault(2) again", gala.fault(2), IMPOSSIBLE);
    }

    static void promise25_itDoesNothing() {
        String text = "x0;d;s1,300;s2,310;s3,320;s4,330;f;s1,290;d;";
        GalaHeats gala = withText(inStage(0), text);
        due("fault(0)", gala.fault(0), 42);
        dueSame("fault(0)", told(gala), told(withText(inStage(0), text)));
    }

    static void promise25_itIsNoChange() {
        dueNoChange("fault(0)", () -> withText(inStage(0), "x0;q"), gala -> gala.fault(0));
        GalaHeats gala = withText(new GalaHeats(), "e0,300;q");
        gala.fault(0);
        due("count(12)", gala.count(12), 0);
    }

    // ---- promise 26: play

    static void promise26_anEmptyTextHas0Orders() {
        due("play()", new GalaHeats().play(), 0);
        due("in the stage 3", inStage(3).play(), 0);
    }

    static void promise26_withoutOrdersItIsAChangeToo() {
        GalaHeats gala = new GalaHeats();
        for (int states = 1; states <= 4; states++) {
            gala.play();
            due("count(12)", gala.count(12), states);
        }
        gala.play();
        due("the oldest is dropped", gala.count(12), 4);
        due("undo()", gala.undo(), 3);
        dueOneChange("play()", () -> inStage(0), GalaHeats::play);
    }

    static void promise26_oneOrder() {
        GalaHeats gala = withText(new GalaHeats(), "e5,999;");
        due("play()", gala.play(), 1);
        dueSwimmer(gala, 0, 0, 5, 999, 0);
    }

    static void promise26_aFullText() {
        GalaHeats gala = withText(new GalaHeats(), FULL);
        due("play()", gala.play(), 11);
        due("count(1)", gala.count(1), 7);
        due("count(2)", gala.count(2), 7);
        due("count(3)", gala.count(3), 1);
        due("heat(0, 0)", gala.heat(0, 0), 4);
    }

    static void promise26_theMostOrdersOfAFullText() {
        GalaHeats gala = withText(entered(4, rising(30)), "x0;x1;x2;x3;x4;x5;x6;x7;x8;x9;x10;x11;x12;x13;x14;x15;x16;d;");
        due("count(13)", gala.count(13), 60);
        due("play()", gala.play(), 18);
        due("count(2)", gala.count(2), (1 << 17) - 1);
        due("count(3)", gala.count(3), 4);
    }

    static void promise26_eachOrderIsDone() {
        GalaHeats gala = withText(new GalaHeats(), "e0,300;e1,310;x1;d;s0,299;f;s0,298;o;n;");
        due("play()", gala.play(), 9);
        due("e, e: count(1)", gala.count(1), 2);
        due("o: count(7)", gala.count(7), 1);
        due("o: points(0)", gala.points(0), 18);
        due("s, s: count(8)", gala.count(8), 298);
        due("n: count(0)", gala.count(0), 0);
        due("n: swimmer(0, 1)", gala.swimmer(0, 1), 298);
        due("x: swimmer(1, 1)", gala.swimmer(1, 1), 310);
    }

    static void promise26_itIsAsIfTheCallsWereMade() {
        GalaHeats played = withText(inStage(0), "e5,295;x1;d;s0,280;s2,0;s3,285;s5,290;s4,285;f;");
        due("play()", played.play(), 9);
        GalaHeats called = withText(inStage(0), "e5,295;x1;d;s0,280;s2,0;s3,285;s5,290;s4,285;f;");
        called.enter(5, 295);
        called.scratch(1);
        called.draw();
        called.swim(0, 280);
        called.swim(2, 0);
        called.swim(3, 285);
        called.swim(5, 290);
        called.swim(4, 285);
        called.finals();
        dueSame("play()", told(played), told(called));
    }

    static void promise26_theReservesAreThoseOfTheFinalThatItDrew() {
        GalaHeats gala = withText(inStage(1), "s0,340;s1,330;s2,320;s3,310;s4,300;f;");
        due("play()", gala.play(), 6);
        due("reserve(0)", gala.reserve(0), 0);
        due("reserve(1)", gala.reserve(1), NONE);
        due("scratch(4)", gala.scratch(4), 0);
    }

    static void promise26_zerosAheadAreAllowed() {
        GalaHeats gala = withText(new GalaHeats(), "e005,0;e00,000;e3,999;x01;d;s000,100;s02,00;");
        due("play()", gala.play(), 7);
        due("swimmer(0, 0)", gala.swimmer(0, 0), 5);
        due("swimmer(1, 1)", gala.swimmer(1, 1), 0);
        due("swimmer(2, 1)", gala.swimmer(2, 1), 999);
        due("count(2)", gala.count(2), 2);
        due("swimmer(0, 5)", gala.swimmer(0, 5), 100);
        due("swimmer(2, 5)", gala.swimmer(2, 5), 0);
    }

    static void promise26_allOrdersAreOneChange() {
        GalaHeats gala = new GalaHeats();
        gala.enter(0, 300);
        typeAll(gala, "e0,310;e1,320;d;s0,300;");
        due("play()", gala.play(), 4);
        due("count(12)", gala.count(12), 2);
        due("undo()", gala.undo(), 1);
        due("count(1)", gala.count(1), 1);
        due("count(0)", gala.count(0), 0);
        dueOneChange("play()", () -> withText(inStage(0), "e5,350;d;"), GalaHeats::play);
    }

    static void promise26_theTextStays() {
        GalaHeats gala = withText(new GalaHeats(), "e0,310;");
        due("play()", gala.play(), 1);
        due("count(13)", gala.count(13), 7);
        due("once more", gala.play(), 1);
        due("count(1)", gala.count(1), 2);
    }

    static void promise26_withAFaultOfTheFormItIsNotPossible() {
        due("at the end", withText(new GalaHeats(), "e0,310;e1,320").play(), IMPOSSIBLE);
        due("at the beginning", withText(new GalaHeats(), "q;e0,310;").play(), IMPOSSIBLE);
    }

    static void promise26_withAnOrderThatIsRefusedItIsNotPossible() {
        due("NOT_POSSIBLE", withText(new GalaHeats(), "e0,310;d;d;").play(), IMPOSSIBLE);
        due("INVALID_ARGUMENT", withText(new GalaHeats(), "e0,310;x1;").play(), IMPOSSIBLE);
        due("LIMIT_REACHED", withText(entered(8, rising(30)), "e0,300;").play(), IMPOSSIBLE);
    }

    static void promise26_aRefusedCallChangesNothing() {
        dueNothingChanged("\"x0;d;d;\"", () -> withText(inStage(0), "x0;d;d;"), GalaHeats::play, IMPOSSIBLE);
        dueNothingChanged("\"x0;q\"", () -> withText(inStage(0), "x0;q"), GalaHeats::play, IMPOSSIBLE);
        dueNothingChanged("\"s0,300;f;d;\"", () -> withText(inStage(1), "s0,300;f;d;"), GalaHeats::play, IMPOSSIBLE);
        dueNothingChanged("\"e0,300;d\"", () -> withText(new GalaHeats(), "e0,300;d"), GalaHeats::play, IMPOSSIBLE);
    }

    static void promise26_afterARefusedCallTheTextStays() {
        GalaHeats gala = withText(new GalaHeats(), "e0,310;d;d;");
        gala.play();
        due("count(13)", gala.count(13), 11);
        due("fault(0)", gala.fault(0), 9);
    }
}
