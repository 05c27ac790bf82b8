/** Promises 23 to 26: type, clearText, fault, play. */
public final class TextsTest {
    private static final int FORM = 1;
    private static final int REFUSED = 2;

    public static void main(String[] args) {
        type();
        clearText();
        faultOfForm();
        faultOfOrders();
        faultAmongOrders();
        faultRefused();
        playAll();
        playIsOneChange();
        playRefused();
        playNumbers();
        Checks.finish();
    }

    private static void type() {
        GalaHeats gala = new GalaHeats();
        Checks.due("type(31)", gala.type(31), Checks.INVALID);
        Checks.due("type(127)", gala.type(127), Checks.INVALID);
        Checks.due("type(-1)", gala.type(-1), Checks.INVALID);
        Checks.due("no length", gala.count(13), 0);
        Checks.due("type(32)", gala.type(32), 1);
        Checks.due("type(126)", gala.type(126), 2);
        for (int length = 3; length <= 60; length++) {
            Checks.due("type('d')", gala.type('d'), length);
        }
        Checks.due("the 61st", gala.type('d'), Checks.LIMIT);
        Checks.due("the 61st, out of range", gala.type(127), Checks.INVALID);
        Checks.due("length", gala.count(13), 60);
        Checks.due("no change", gala.count(12), 0);
    }

    private static void clearText() {
        GalaHeats gala = new GalaHeats();
        Checks.due("empty", gala.clearText(), 0);
        Checks.typeAll(gala, "e0,300;");
        Checks.due("clearText()", gala.clearText(), 7);
        Checks.due("length", gala.count(13), 0);
        Checks.due("again", gala.clearText(), 0);
        Checks.due("no change", gala.count(12), 0);
        Checks.due("type after it", gala.type('d'), 1);
        Checks.due("nothing of it is left", gala.fault(2), 1);
    }

    private static void faultOfForm() {
        GalaHeats gala = new GalaHeats();
        String[] texts = {";", " ", "a;", "E0,300;", "e", "e;", "e0", "e0;", "e0,", "e0,;", "e0,300", "e0,3000;", "e0000,300;",
            "e-1,300;", "e 0,300;", "e0,300 ;", "e0,300,", "e,300;", "s0", "s0,x;", "x", "x;", "x1", "x1,", "x1234;", "x12a",
            "d", "dd;", "d0;", "f", "f ;", "o", "o1;", "n", "n:"};
        int[] breaks = {0, 0, 0, 0, 1, 1, 2, 2, 3, 3, 6, 6, 4,
            1, 1, 6, 6, 1, 2, 3, 1, 1, 2, 2, 4, 3,
            1, 1, 1, 1, 1, 1, 1, 1, 1};
        Checks.due("the table", texts.length, breaks.length);
        for (int each = 0; each < texts.length; each++) {
            Checks.dueFault(gala, texts[each], 0, FORM, breaks[each]);
        }
        String full = "e0,300;e0,300;e0,300;e0,300;e0,300;e0,300;e0,300;e0,300;e0,3";
        Checks.due("60 characters", full.length(), 60);
        Checks.dueFault(gala, full, 56, FORM, 4);
    }

    private static void faultOfOrders() {
        GalaHeats gala = new GalaHeats();
        Checks.dueFault(gala, "e6,300;", 0, REFUSED, Checks.INVALID);
        Checks.dueFault(gala, "e0,99;", 0, REFUSED, Checks.INVALID);
        Checks.dueFault(gala, "x0;", 0, REFUSED, Checks.INVALID);
        Checks.dueFault(gala, "s0,300;", 0, REFUSED, Checks.INVALID);
        Checks.dueFault(gala, "d;", 0, REFUSED, Checks.IMPOSSIBLE);
        Checks.dueFault(gala, "f;", 0, REFUSED, Checks.IMPOSSIBLE);
        Checks.dueFault(gala, "o;", 0, REFUSED, Checks.IMPOSSIBLE);
        Checks.dueFault(gala, "n;", 0, REFUSED, Checks.IMPOSSIBLE);
        for (int number = 0; number < 29; number++) {
            gala.enter(0, 300);
        }
        Checks.dueFault(gala, "e1,400;e1,400;", 7, REFUSED, Checks.LIMIT);
        Checks.due("swimmers", gala.count(1), 29);
    }

    private static void faultAmongOrders() {
        GalaHeats gala = new GalaHeats();
        Checks.dueFault(gala, "e0,300;e1,310;d;e2,320;", 16, REFUSED, Checks.IMPOSSIBLE);
        Checks.dueFault(gala, "e0,300;x0;x0;q", 10, REFUSED, Checks.IMPOSSIBLE);
        Checks.dueFault(gala, "e0,300;q;x0;x0;", 7, FORM, 0);
        Checks.dueFault(gala, "e0,300;d;s0,0;f;", 14, REFUSED, Checks.IMPOSSIBLE);
        Checks.dueFault(gala, "e0,300;d;s0,300;f;o;", 18, REFUSED, Checks.IMPOSSIBLE);
        Checks.dueFault(gala, "e0,300;d;s0,300;f;s0,290;o;n;d;s0,280;s1,2", 38, FORM, 4);
        Checks.dueFault(gala, "e0,300;;", 7, FORM, 0);
        Checks.due("nothing was done", gala.count(1), 0);
        Checks.due("no states", gala.count(12), 0);
        Checks.due("the text stays", gala.count(13), 8);
        gala.enter(0, 300);
        gala.draw();
        Checks.dueFault(gala, "s0,300;f;d;", 9, REFUSED, Checks.IMPOSSIBLE);
        Checks.due("by the state of now", gala.count(0), 1);
    }

    private static void faultRefused() {
        GalaHeats gala = new GalaHeats();
        Checks.due("empty: fault(0)", gala.fault(0), Checks.NONE);
        Checks.due("empty: fault(2)", gala.fault(2), Checks.NONE);
        Checks.due("fault(-1)", gala.fault(-1), Checks.INVALID);
        Checks.due("fault(3)", gala.fault(3), Checks.INVALID);
        Checks.typeAll(gala, "e0,300;d;");
        Checks.due("no fault: fault(0)", gala.fault(0), Checks.NONE);
        Checks.due("no fault: fault(1)", gala.fault(1), Checks.NONE);
        Checks.due("no fault: fault(2)", gala.fault(2), Checks.NONE);
        Checks.due("no fault: fault(3)", gala.fault(3), Checks.INVALID);
        gala.enter(0, 300);
        gala.draw();
        Checks.due("it has one in another stage", gala.fault(0), 0);
    }

    private static void playAll() {
        GalaHeats gala = new GalaHeats();
        Checks.typeAll(gala, "e0,300;e1,310;x1;d;s0,299;f;s0,298;o;n;");
        Checks.due("play()", gala.play(), 9);
        Checks.due("swimmers", gala.count(1), 2);
        Checks.due("stage", gala.count(0), 0);
        Checks.due("entry", gala.swimmer(0, 1), 298);
        Checks.due("entry", gala.swimmer(1, 1), 310);
        Checks.due("events", gala.count(7), 1);
        Checks.due("points", gala.points(0), 18);
        Checks.due("record", gala.count(8), 298);
        Checks.due("the text stays", gala.count(13), 39);
        Checks.due("now two others would have to swim", gala.fault(0), 26);
        Checks.due("again", gala.play(), Checks.IMPOSSIBLE);
        Checks.due("swimmers", gala.count(1), 2);
    }

    private static void playIsOneChange() {
        GalaHeats gala = new GalaHeats();
        gala.enter(0, 300);
        Checks.typeAll(gala, "e0,310;e1,320;d;");
        Checks.due("play()", gala.play(), 3);
        Checks.due("states", gala.count(12), 2);
        Checks.due("undo()", gala.undo(), 1);
        Checks.due("swimmers", gala.count(1), 1);
        Checks.due("stage", gala.count(0), 0);
        Checks.due("the text stays", gala.count(13), 16);
        gala.clearText();
        for (int turn = 2; turn <= 4; turn++) {
            Checks.due("without orders", gala.play(), 0);
            Checks.due("a change too", gala.count(12), turn);
        }
        Checks.due("one more", gala.play(), 0);
        Checks.due("the oldest is dropped", gala.count(12), 4);
    }

    private static void playRefused() {
        GalaHeats gala = new GalaHeats();
        Checks.typeAll(gala, "e0,310;e1,320;d;d;");
        Checks.due("play()", gala.play(), Checks.IMPOSSIBLE);
        Checks.due("nothing was done", gala.count(1), 0);
        Checks.due("no states", gala.count(12), 0);
        Checks.typeAll(gala, "e0,310;e1,320");
        Checks.due("play()", gala.play(), Checks.IMPOSSIBLE);
        Checks.due("nothing was done", gala.count(1), 0);
    }

    private static void playNumbers() {
        GalaHeats gala = new GalaHeats();
        Checks.typeAll(gala, "e005,0;e00,000;e3,999;x01;d;s000,100;s02,00;");
        Checks.due("0 ahead is allowed", gala.play(), 7);
        Checks.due("club of 0", gala.swimmer(0, 0), 5);
        Checks.due("entry of 1", gala.swimmer(1, 1), 0);
        Checks.due("entry of 2", gala.swimmer(2, 1), 999);
        Checks.due("scratched", gala.count(2), 2);
        Checks.due("time of 0", gala.swimmer(0, 5), 100);
        Checks.due("time of 2", gala.swimmer(2, 5), 0);
        Checks.dueFault(gala, "s0,012;", 0, REFUSED, Checks.INVALID);
        Checks.dueFault(gala, "x999;", 0, REFUSED, Checks.INVALID);
    }
}
