/** Promises 15 to 22: ifDrawn, lane, why, missing, leader, mean, count, undo. */
public final class OutlookTest {
    public static void main(String[] args) {
        ifDrawn();
        ifDrawnRefused();
        lane();
        why();
        missing();
        leader();
        mean();
        count();
        countRecord();
        countRefused();
        undo();
        undoAmongErrors();
        undoForgets();
        undoReserves();
        undoEachChange();
        errorsChangeNothing();
        Checks.finish();
    }

    private static void ifDrawn() {
        for (int swimmers = 1; swimmers <= 30; swimmers++) {
            GalaHeats gala = Checks.gala(4, Checks.rising(swimmers));
            GalaHeats drawn = Checks.gala(4, Checks.rising(swimmers));
            if (swimmers > 3) {
                gala.scratch(2);
                drawn.scratch(2);
            }
            int heats = drawn.draw();
            for (int number = 0; number < swimmers; number++) {
                if (drawn.swimmer(number, 10) == 0) {
                    Checks.due("ifDrawn(" + number + ", 0)", gala.ifDrawn(number, 0), drawn.swimmer(number, 3));
                    Checks.due("ifDrawn(" + number + ", 1)", gala.ifDrawn(number, 1), drawn.swimmer(number, 4));
                    Checks.due("ifDrawn(" + number + ", 2)", gala.ifDrawn(number, 2), heats);
                }
            }
            Checks.due("nothing is drawn", gala.count(0), 0);
            Checks.due("no heats", gala.count(3), 0);
        }
    }

    private static void ifDrawnRefused() {
        GalaHeats gala = Checks.gala(4, 300, 310);
        Checks.due("ifDrawn(-1, 0)", gala.ifDrawn(-1, 0), Checks.INVALID);
        Checks.due("ifDrawn(2, 0)", gala.ifDrawn(2, 0), Checks.INVALID);
        Checks.due("ifDrawn(0, -1)", gala.ifDrawn(0, -1), Checks.INVALID);
        Checks.due("ifDrawn(0, 3)", gala.ifDrawn(0, 3), Checks.INVALID);
        gala.scratch(0);
        Checks.due("scratched", gala.ifDrawn(0, 2), Checks.IMPOSSIBLE);
        Checks.due("scratched, what is wrong", gala.ifDrawn(0, 3), Checks.INVALID);
        gala.draw();
        Checks.due("in the stage 1", gala.ifDrawn(1, 0), Checks.IMPOSSIBLE);
        Checks.due("in the stage 1, no such swimmer", gala.ifDrawn(2, 0), Checks.INVALID);
    }

    private static void lane() {
        int[][] orders = {{2, 3, 1, 4}, {3, 4, 2, 5, 1}, {3, 4, 2, 5, 1, 6}, {4, 5, 3, 6, 2, 7, 1},
            {4, 5, 3, 6, 2, 7, 1, 8}, {5, 6, 4, 7, 3, 8, 2, 9, 1}, {5, 6, 4, 7, 3, 8, 2, 9, 1, 10}};
        GalaHeats gala = new GalaHeats();
        for (int lanes = 4; lanes <= 10; lanes++) {
            gala.set(0, lanes);
            for (int rank = 0; rank < lanes; rank++) {
                int itsLane = orders[lanes - 4][rank];
                Checks.due("lane(" + rank + ", 0)", gala.lane(rank, 0), itsLane);
                Checks.due("lane(" + (itsLane - 1) + ", 1)", gala.lane(itsLane - 1, 1), rank);
            }
            Checks.due("lane(" + lanes + ", 0)", gala.lane(lanes, 0), Checks.INVALID);
            Checks.due("lane(" + lanes + ", 1)", gala.lane(lanes, 1), Checks.INVALID);
        }
        Checks.due("lane(-1, 0)", gala.lane(-1, 0), Checks.INVALID);
        Checks.due("lane(0, -1)", gala.lane(0, -1), Checks.INVALID);
        Checks.due("lane(0, 2)", gala.lane(0, 2), Checks.INVALID);
    }

    private static void why() {
        GalaHeats gala = new GalaHeats();
        Checks.due("nobody", gala.why(), 1);
        gala.set(0, 4);
        for (int number = 0; number < 5; number++) {
            gala.enter(0, 300 + number);
        }
        Checks.due("it can", gala.why(), 0);
        gala.draw();
        Checks.due("nobody has swum", gala.why(), 2);
        Checks.swimAll(gala, 0, 0, 0, 0);
        Checks.due("2 rather than 1", gala.why(), 2);
        gala.swim(4, 0);
        Checks.due("nobody with a time", gala.why(), 1);
        Checks.swimAll(gala, 300, 301, 302, 303, 304);
        Checks.due("it can", gala.why(), 0);
        gala.finals();
        Checks.due("nobody has swum in the final", gala.why(), 2);
        Checks.swimAll(gala, 0, 0, 0, 0);
        Checks.due("nobody with a time is no reason in the final", gala.why(), 0);
        gala.scratch(1);
        Checks.due("the one who was called has not", gala.why(), 2);
        gala.scratch(4);
        Checks.due("who scratched need not", gala.why(), 0);
        gala.end();
        Checks.due("in the stage 3", gala.why(), 0);
        gala = Checks.gala(4, 300, 310);
        gala.scratch(0);
        gala.scratch(1);
        Checks.due("all scratched in the stage 0", gala.why(), 1);
        gala.undo();
        gala.draw();
        gala.scratch(1);
        Checks.due("all scratched in the stage 1", gala.why(), 1);
    }

    private static void missing() {
        GalaHeats gala = Checks.gala(4, 300, 310, 320, 330, 340);
        Checks.due("in the stage 0", gala.missing(0), Checks.NONE);
        gala.scratch(0);
        gala.draw();
        gala.swim(2, 0);
        gala.scratch(3);
        Checks.due("missing(0)", gala.missing(0), 1);
        Checks.due("missing(1)", gala.missing(1), 4);
        Checks.due("missing(2)", gala.missing(2), Checks.NONE);
        Checks.due("missing(max)", gala.missing(Integer.MAX_VALUE), Checks.NONE);
        Checks.due("missing(-1)", gala.missing(-1), Checks.INVALID);
        gala.swim(1, 300);
        gala.swim(4, 300);
        Checks.due("all have swum", gala.missing(0), Checks.NONE);
        gala.finals();
        Checks.due("of the final", gala.missing(0), 1);
        Checks.due("of the final", gala.missing(1), 4);
        Checks.due("who is not in it", gala.missing(2), Checks.NONE);
        gala.scratch(1);
        Checks.due("who scratched", gala.missing(0), 4);
        gala.swim(4, 0);
        gala.end();
        Checks.due("in the stage 3", gala.missing(0), Checks.NONE);
        Checks.due("missing(-1)", gala.missing(-1), Checks.INVALID);
    }

    private static void leader() {
        GalaHeats gala = Checks.gala(4, 300, 310, 320, 330, 340);
        for (int rank = 0; rank < 6; rank++) {
            Checks.due("without points", gala.leader(rank), rank);
        }
        gala.draw();
        Checks.swimAll(gala, 0, 310, 320, 330, 340);
        gala.finals();
        Checks.swimAll(gala, -1, 400, 350, 300, 350);
        gala.end();
        int[] clubs = {3, 2, 4, 1, 0, 5};
        for (int rank = 0; rank < 6; rank++) {
            Checks.due("leader(" + rank + ")", gala.leader(rank), clubs[rank]);
        }
        Checks.due("leader(-1)", gala.leader(-1), Checks.INVALID);
        Checks.due("leader(6)", gala.leader(6), Checks.INVALID);
    }

    private static void dueMean(GalaHeats gala, int together, int times) {
        Checks.due(together + " / " + times, gala.mean(), Float.floatToIntBits((float) together / (float) times));
    }

    private static void mean() {
        GalaHeats gala = Checks.gala(10, Checks.rising(10));
        Checks.due("in the stage 0", gala.mean(), Checks.NONE);
        gala.draw();
        Checks.due("without times", gala.mean(), Checks.NONE);
        gala.swim(0, 0);
        Checks.due("0 is no time", gala.mean(), Checks.NONE);
        int together = 0;
        int[] times = {0, 100, 101, 999, 512, 511, 256, 777, 128, 333};
        for (int number = 1; number < 10; number++) {
            gala.swim(number, times[number]);
            together += times[number];
            dueMean(gala, together, number);
        }
        gala.scratch(1);
        dueMean(gala, together - 100, 8);
        gala.finals();
        Checks.due("without times of the final", gala.mean(), Checks.NONE);
        Checks.swimAll(gala, -1, -1, 999, 998, 999, 0, 997, 999, 999, 999);
        dueMean(gala, 999 * 5 + 998 + 997, 7);
        gala.end();
        dueMean(gala, 999 * 5 + 998 + 997, 7);
        gala.next();
        Checks.due("in the next event", gala.mean(), Checks.NONE);
        for (int time = 100; time <= 999; time++) {
            GalaHeats each = Checks.gala(4, 300);
            each.draw();
            each.swim(0, time);
            dueMean(each, time, 1);
        }
    }

    private static void count() {
        GalaHeats gala = Checks.gala(4, 300, 310, 320, 330, 340, 350, 360);
        Checks.due("swimmers", gala.count(1), 7);
        gala.scratch(6);
        Checks.due("scratched", gala.count(2), 64);
        gala.draw();
        Checks.due("stage", gala.count(0), 1);
        Checks.due("heats", gala.count(3), 2);
        Checks.swimAll(gala, 300, 310, 320, 330, 340, 350);
        gala.swim(5, 0);
        Checks.due("times, 0 too, again is one", gala.count(6), 6);
        gala.swim(5, 350);
        gala.finals();
        Checks.due("in the final", gala.count(4), 15);
        Checks.due("reserves", gala.count(5), 2);
        gala.swim(0, 300);
        gala.swim(1, 0);
        Checks.due("times of both", gala.count(6), 8);
        gala.scratch(0);
        Checks.due("a time of the final is gone", gala.count(6), 7);
        Checks.due("scratched", gala.count(2), 65);
        Checks.due("in the final", gala.count(4), 30);
        Checks.due("reserves", gala.count(5), 1);
        Checks.due("called", gala.count(10), 1);
        Checks.swimAll(gala, -1, 0, 300, 301, 302);
        Checks.due("events that ended", gala.count(7), 0);
        gala.end();
        Checks.due("events that ended", gala.count(7), 1);
        Checks.due("half points", gala.count(11), 10 + 6 + 4);
        Checks.due("in the final, when it is over", gala.count(4), 30);
        gala.next();
        Checks.due("called so far, of all events", gala.count(10), 1);
        Checks.due("states", gala.count(12), 4);
        Checks.due("length", gala.count(13), 0);
        gala.type('x');
        Checks.due("length", gala.count(13), 1);
        Checks.due("lanes", gala.count(20), 4);
    }

    private static void countRecord() {
        GalaHeats gala = Checks.gala(4, 200, 310, 320);
        gala.draw();
        gala.swim(2, 0);
        Checks.due("0 is no record", gala.count(8), Checks.NONE);
        Checks.due("nobody swam it", gala.count(9), Checks.NONE);
        gala.swim(1, 500);
        gala.swim(0, 500);
        Checks.due("record", gala.count(8), 500);
        Checks.due("who swam it first", gala.count(9), 1);
        gala.swim(2, 499);
        Checks.due("record", gala.count(8), 499);
        Checks.due("who", gala.count(9), 2);
        gala.swim(2, 600);
        Checks.due("it was swum, even if the time is gone", gala.count(8), 499);
        gala.finals();
        gala.swim(0, 400);
        gala.scratch(0);
        Checks.due("record of the final", gala.count(8), 400);
        Checks.due("who", gala.count(9), 0);
        gala.undo();
        gala.undo();
        Checks.due("undo takes it back", gala.count(8), 499);
        Checks.due("who", gala.count(9), 2);
    }

    private static void countRefused() {
        GalaHeats gala = new GalaHeats();
        for (int what = 14; what < 20; what++) {
            Checks.due("count(" + what + ")", gala.count(what), Checks.INVALID);
        }
        Checks.due("count(-1)", gala.count(-1), Checks.INVALID);
        Checks.due("count(23)", gala.count(23), Checks.INVALID);
        Checks.due("count(min)", gala.count(Integer.MIN_VALUE), Checks.INVALID);
        Checks.due("count(max)", gala.count(Integer.MAX_VALUE), Checks.INVALID);
    }

    private static void undo() {
        GalaHeats gala = new GalaHeats();
        Checks.due("empty", gala.undo(), Checks.IMPOSSIBLE);
        for (int number = 0; number < 7; number++) {
            gala.enter(0, 200 + number);
            Checks.due("states", gala.count(12), number < 4 ? number + 1 : 4);
        }
        gala.type('d');
        for (int left = 3; left >= 0; left--) {
            Checks.due("undo()", gala.undo(), left);
            Checks.due("swimmers", gala.count(1), left + 3);
            Checks.due("the text stays", gala.count(13), 1);
        }
        Checks.due("empty again", gala.undo(), Checks.IMPOSSIBLE);
        Checks.due("anew", gala.enter(5, 900), 3);
        Checks.due("undo()", gala.undo(), 0);
    }

    private static void undoAmongErrors() {
        GalaHeats gala = new GalaHeats();
        Checks.due("an error ahead of all", gala.scratch(0), Checks.INVALID);
        for (int number = 0; number < 6; number++) {
            gala.enter(0, 200 + number);
            Checks.due("an error among the changes", gala.swim(0, 200), Checks.IMPOSSIBLE);
        }
        for (int left = 3; left >= 0; left--) {
            Checks.due("undo()", gala.undo(), left);
            Checks.due("swimmers", gala.count(1), left + 2);
            Checks.due("an error among them", gala.next(), Checks.IMPOSSIBLE);
        }
    }

    private static void undoForgets() {
        GalaHeats gala = new GalaHeats();
        Checks.typeAll(gala, "e1,300;x0;e0,300;d;s1,299;f;s1,298;o;");
        gala.play();
        Checks.due("points", gala.points(0), 18);
        gala.undo();
        Checks.due("points", gala.points(0), 0);
        Checks.due("record", gala.count(8), Checks.NONE);
        gala.enter(0, 300);
        gala.enter(0, 0);
        for (int number = 0; number < 2; number++) {
            for (int what = 3; what <= 9; what++) {
                Checks.due("swimmer(" + number + ", " + what + ")", gala.swimmer(number, what), Checks.NONE);
            }
            Checks.due("scratched", gala.swimmer(number, 10), 0);
            Checks.due("half points", gala.swimmer(number, 11), 0);
        }
    }

    private static void undoReserves() {
        GalaHeats gala = Checks.inFinal(4, 300, 310, 320, 330, 340, 350);
        gala.scratch(4);
        gala.undo();
        gala.undo();
        Checks.due("ahead of the final", gala.reserve(0), Checks.NONE);
        gala.swim(4, 360);
        gala.finals();
        Checks.due("reserve(0)", gala.reserve(0), 5);
        Checks.due("reserve(1)", gala.reserve(1), 4);
        gala.undo();
        gala.undo();
        gala.finals();
        Checks.due("reserve(0)", gala.reserve(0), 4);
        gala.scratch(0);
        gala.undo();
        Checks.due("not called any more", gala.reserve(0), 4);
        Checks.due("called so far", gala.count(10), 0);
        Checks.due("called anew", gala.scratch(1), 4);
    }

    /** All that the questions tell, as one text, so that two states can be held against each other. */
    private static String told(GalaHeats gala) {
        StringBuilder told = new StringBuilder();
        for (int what = 0; what <= 22; what++) {
            told.append(what == 12 ? 0 : gala.count(what)).append(' ');
        }
        for (int number = 0; number < 8; number++) {
            for (int what = 0; what < 12; what++) {
                told.append(gala.swimmer(number, what)).append(' ');
            }
            told.append(gala.points(number)).append(' ').append(gala.reserve(number)).append(' ');
        }
        return told.append(gala.why()).append(' ').append(gala.mean()).toString();
    }

    private static void dueSame(String call, String got, String want) {
        Checks.due(call + " leaves or restores the state (1: yes)", got.equals(want) ? 1 : 0, 1);
    }

    private static void undoEachChange() {
        GalaHeats gala = Checks.gala(4, 300, 310, 320, 330, 340, 350, 360);
        for (int change = 0; change < 21; change++) {
            String before = told(gala);
            Checks.due("change " + change, makeChange(gala, change) >= 0 ? 1 : 0, 1);
            gala.undo();
            dueSame("change " + change + ", undo()", told(gala), before);
            makeChange(gala, change);
        }
    }

    private static int makeChange(GalaHeats gala, int change) {
        switch (change) {
            case 0:
                return gala.enter(2, 0);
            case 1:
                return gala.scratch(7);
            case 2:
                return gala.set(2, 4);
            case 3:
                return gala.draw();
            case 11:
                return gala.scratch(6);
            case 12:
                return gala.finals();
            case 17:
                return gala.scratch(0);
            case 18:
                return gala.swim(4, 0);
            case 19:
                return gala.end();
            case 20:
                return gala.next();
            default:
                return change < 12 ? gala.swim(change - 4, 299 + change) : gala.swim(change - 13, 250 + change);
        }
    }

    private static void errorsChangeNothing() {
        GalaHeats gala = Checks.inFinal(4, 300, 310, 320, 330, 340);
        String before = told(gala);
        gala.enter(0, 100);
        gala.enter(9, 100);
        gala.scratch(9);
        gala.set(0, 5);
        gala.draw();
        gala.swim(4, 100);
        gala.swim(0, 99);
        gala.finals();
        gala.end();
        gala.next();
        gala.type(31);
        dueSame("a call that returns an error", told(gala), before);
        gala.ifDrawn(0, 0);
        gala.fault(0);
        gala.missing(0);
        dueSame("a question", told(gala), before);
        Checks.due("states", gala.count(12), 4);
    }
}
