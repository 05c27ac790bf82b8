/** Promises 5 to 9: draw, swim, finals, end, next. */
public final class StagesTest {
    public static void main(String[] args) {
        drawOneHeat();
        drawTwoHeats();
        drawThreeHeats();
        drawManyHeats();
        drawFillsTheFirstHeat();
        drawByEntry();
        drawRefused();
        swim();
        swimRefused();
        finals();
        finalsRefused();
        end();
        endShares();
        endWithoutTimes();
        endRefused();
        next();
        nextBetters();
        nextForgetsReserves();
        nextRefused();
        Checks.finish();
    }

    /** The swimmers of a heat in the lanes from 1 on, -1 for one that is free. */
    private static void dueLanes(GalaHeats gala, int heat, int... swimmers) {
        for (int lane = 1; lane <= swimmers.length; lane++) {
            int want = swimmers[lane - 1];
            Checks.due("at(" + heat + ", " + lane + ")", gala.at(heat, lane), want < 0 ? Checks.NONE : want);
        }
    }

    private static void drawOneHeat() {
        GalaHeats gala = Checks.gala(5, Checks.rising(5));
        Checks.due("draw()", gala.draw(), 1);
        Checks.due("stage", gala.count(0), 1);
        dueLanes(gala, 0, 4, 2, 0, 1, 3);
    }

    private static void drawTwoHeats() {
        GalaHeats gala = Checks.gala(4, Checks.rising(5));
        Checks.due("draw()", gala.draw(), 2);
        dueLanes(gala, 1, 4, 0, 2, -1);
        dueLanes(gala, 0, -1, 1, 3, -1);
        gala = Checks.gala(4, Checks.rising(8));
        Checks.due("draw()", gala.draw(), 2);
        dueLanes(gala, 1, 4, 0, 2, 6);
        dueLanes(gala, 0, 5, 1, 3, 7);
    }

    private static void drawThreeHeats() {
        GalaHeats gala = Checks.gala(4, Checks.rising(10));
        Checks.due("draw()", gala.draw(), 3);
        dueLanes(gala, 2, 6, 0, 3, 9);
        dueLanes(gala, 1, 7, 1, 4, -1);
        dueLanes(gala, 0, 8, 2, 5, -1);
        Checks.due("heats", gala.count(3), 3);
    }

    private static void drawManyHeats() {
        GalaHeats gala = Checks.gala(4, Checks.rising(30));
        Checks.due("draw()", gala.draw(), 8);
        dueLanes(gala, 7, 6, 0, 3, 9);
        dueLanes(gala, 6, 7, 1, 4, 10);
        dueLanes(gala, 5, 8, 2, 5, 11);
        dueLanes(gala, 4, 14, 12, 13, 15);
        dueLanes(gala, 3, 18, 16, 17, 19);
        dueLanes(gala, 2, 22, 20, 21, 23);
        dueLanes(gala, 1, 26, 24, 25, -1);
        dueLanes(gala, 0, 29, 27, 28, -1);
    }

    private static void drawFillsTheFirstHeat() {
        GalaHeats gala = Checks.gala(4, Checks.rising(17));
        gala.set(1, 2);
        Checks.due("draw()", gala.draw(), 5);
        dueLanes(gala, 0, -1, 15, 16, -1);
        dueLanes(gala, 1, 14, 12, 13, -1);
        gala = Checks.gala(4, Checks.rising(17));
        gala.set(1, 1);
        Checks.due("draw()", gala.draw(), 5);
        dueLanes(gala, 0, -1, 16, -1, -1);
        dueLanes(gala, 1, 14, 12, 13, 15);
        gala = Checks.gala(4, Checks.rising(13));
        Checks.due("draw()", gala.draw(), 4);
        dueLanes(gala, 0, 12, 8, 11, -1);
        dueLanes(gala, 1, -1, 2, 5, -1);
    }

    private static void drawByEntry() {
        GalaHeats gala = Checks.gala(8, 0, 300, 0, 200, 300, 999);
        gala.scratch(3);
        Checks.due("draw()", gala.draw(), 1);
        dueLanes(gala, 0, -1, 2, 5, 1, 4, 0, -1, -1);
    }

    private static void drawRefused() {
        GalaHeats gala = new GalaHeats();
        Checks.due("nobody", gala.draw(), Checks.IMPOSSIBLE);
        gala.enter(0, 200);
        gala.scratch(0);
        Checks.due("all scratched", gala.draw(), Checks.IMPOSSIBLE);
        gala.enter(0, 200);
        Checks.due("one is not", gala.draw(), 1);
        Checks.due("in the stage 1", gala.draw(), Checks.IMPOSSIBLE);
        gala.swim(1, 200);
        gala.finals();
        Checks.due("in the stage 2", gala.draw(), Checks.IMPOSSIBLE);
        gala.swim(1, 200);
        gala.end();
        Checks.due("in the stage 3", gala.draw(), Checks.IMPOSSIBLE);
        gala.next();
        Checks.due("in the next event, where nobody is scratched", gala.draw(), 1);
        Checks.due("both are in it", gala.heat(0, 0), 2);
    }

    private static void swim() {
        GalaHeats gala = Checks.gala(4, 300, 310, 320, 330, 340);
        gala.draw();
        Checks.due("swim(0, 100)", gala.swim(0, 100), 0);
        Checks.due("swim(1, 999)", gala.swim(1, 999), 1);
        Checks.due("swim(2, 0)", gala.swim(2, 0), 100);
        Checks.due("swim(3, 999)", gala.swim(3, 999), 1);
        Checks.due("swim(0, 500), the own time is replaced", gala.swim(0, 500), 0);
        Checks.due("swim(4, 501)", gala.swim(4, 501), 1);
        Checks.due("time of 0", gala.swimmer(0, 5), 500);
        Checks.due("time of 2", gala.swimmer(2, 5), 0);
        Checks.due("times", gala.count(6), 5);
        gala.finals();
        Checks.due("times of the heats do not count", gala.swim(4, 600), 0);
        Checks.due("nor 0", gala.swim(0, 0), 100);
        Checks.due("swim(1, 700)", gala.swim(1, 700), 1);
        Checks.due("time of the heat stays", gala.swimmer(1, 5), 999);
        Checks.due("time of the final", gala.swimmer(1, 8), 700);
    }

    private static void swimRefused() {
        GalaHeats gala = Checks.gala(4, Checks.rising(6));
        Checks.due("no heats yet", gala.swim(0, 200), Checks.IMPOSSIBLE);
        gala.scratch(5);
        gala.draw();
        int[] wrong = {-1, 1, 99, 1000, Integer.MIN_VALUE, Integer.MAX_VALUE};
        for (int time : wrong) {
            Checks.due("swim(0, " + time + ")", gala.swim(0, time), Checks.INVALID);
            Checks.due("swim(5, " + time + ")", gala.swim(5, time), Checks.INVALID);
        }
        Checks.due("no such swimmer", gala.swim(6, 200), Checks.INVALID);
        Checks.due("no such swimmer", gala.swim(-1, 200), Checks.INVALID);
        Checks.due("scratched", gala.swim(5, 200), Checks.IMPOSSIBLE);
        Checks.due("no times", gala.count(6), 0);
        Checks.swimAll(gala, 200, 201, 202, 203, 204);
        gala.finals();
        Checks.due("a reserve", gala.swim(4, 200), Checks.IMPOSSIBLE);
        Checks.due("a reserve, wrong time", gala.swim(4, 99), Checks.INVALID);
        gala.scratch(0);
        Checks.due("scratched", gala.swim(0, 200), Checks.IMPOSSIBLE);
        Checks.due("the reserve who was called", gala.swim(4, 200), 0);
        Checks.swimAll(gala, -1, 201, 202, 203);
        gala.end();
        Checks.due("in the stage 3", gala.swim(1, 200), Checks.IMPOSSIBLE);
        Checks.due("no such swimmer in the stage 3", gala.swim(6, 200), Checks.INVALID);
    }

    private static void finals() {
        GalaHeats gala = Checks.gala(4, 300, 0, 290, 310, 0, 305, 280);
        gala.draw();
        Checks.swimAll(gala, 400, 400, 400, 390, 400, 0, 380);
        Checks.due("of several by entry", gala.finals(), 1 << 6 | 1 << 3 | 1 << 2 | 1);
        Checks.due("stage", gala.count(0), 2);
        dueLanes(gala, -1, 2, 6, 3, 0);
        Checks.due("reserve(0)", gala.reserve(0), 1);
        Checks.due("reserve(1)", gala.reserve(1), 4);
        Checks.due("reserve(2)", gala.reserve(2), Checks.NONE);
        gala = Checks.gala(4, Checks.rising(3));
        gala.draw();
        Checks.swimAll(gala, 0, 0, 500);
        Checks.due("one at least", gala.finals(), 4);
        Checks.due("no reserves", gala.count(5), 0);
    }

    private static void finalsRefused() {
        GalaHeats gala = Checks.gala(4, 300, 310);
        Checks.due("in the stage 0", gala.finals(), Checks.IMPOSSIBLE);
        gala.draw();
        gala.swim(0, 0);
        Checks.due("somebody has not swum", gala.finals(), Checks.IMPOSSIBLE);
        gala.swim(1, 0);
        Checks.due("nobody with a time", gala.finals(), Checks.IMPOSSIBLE);
        gala.swim(0, 300);
        gala.scratch(1);
        Checks.due("who scratched need not swim", gala.finals(), 1);
        Checks.due("in the stage 2", gala.finals(), Checks.IMPOSSIBLE);
        gala.swim(0, 0);
        gala.end();
        Checks.due("in the stage 3", gala.finals(), Checks.IMPOSSIBLE);
        gala = Checks.gala(4, 300);
        gala.draw();
        gala.scratch(0);
        Checks.due("all scratched", gala.finals(), Checks.IMPOSSIBLE);
    }

    private static void end() {
        GalaHeats gala = Checks.inFinal(4, 300, 310, 320, 330, 340);
        Checks.swimAll(gala, 302, 301, 0, 303);
        Checks.due("end()", gala.end(), 2);
        Checks.due("stage", gala.count(0), 3);
        Checks.due("place of 0", gala.swimmer(0, 9), 2);
        Checks.due("place of 1", gala.swimmer(1, 9), 1);
        Checks.due("place of 2", gala.swimmer(2, 9), Checks.NONE);
        Checks.due("place of 3", gala.swimmer(3, 9), 3);
        Checks.due("place of 4", gala.swimmer(4, 9), Checks.NONE);
        Checks.due("the place 1 brings 5", gala.points(1), 10);
        Checks.due("the place 2 brings 3", gala.points(0), 6);
        Checks.due("the place 3 brings 2", gala.points(3), 4);
        Checks.due("without a place", gala.points(2), 0);
        Checks.due("events", gala.count(7), 1);
    }

    private static void endShares() {
        GalaHeats gala = Checks.inFinal(6, 300, 310, 320, 330, 340, 350);
        Checks.swimAll(gala, 200, 200, 200, 200, 300, 300);
        Checks.due("end()", gala.end(), 15);
        Checks.due("(7 + 5 + 4 + 3) * 2 / 4, rounded down", gala.swimmer(0, 11), 9);
        Checks.due("each of them", gala.swimmer(3, 11), 9);
        Checks.due("four are left out", gala.swimmer(4, 9), 5);
        Checks.due("(2 + 1) * 2 / 2", gala.swimmer(5, 11), 3);
        Checks.due("all clubs", gala.count(11), 42);
        gala = Checks.inFinal(4, 300, 310, 320, 330);
        Checks.swimAll(gala, 200, 201, 201, 201);
        Checks.due("end()", gala.end(), 1);
        Checks.due("the place 1 alone", gala.swimmer(0, 11), 10);
        Checks.due("(3 + 2 + 1) * 2 / 3", gala.swimmer(2, 11), 4);
        Checks.due("place", gala.swimmer(3, 9), 2);
    }

    private static void endWithoutTimes() {
        GalaHeats gala = Checks.inFinal(4, 300, 310);
        Checks.swimAll(gala, 0, 0);
        Checks.due("end()", gala.end(), 0);
        Checks.due("no points", gala.count(11), 0);
        gala = Checks.inFinal(4, 300, 310);
        gala.scratch(0);
        gala.scratch(1);
        Checks.due("all scratched", gala.end(), 0);
        Checks.due("stage", gala.count(0), 3);
    }

    private static void endRefused() {
        GalaHeats gala = Checks.gala(4, 300, 310, 320, 330, 340);
        Checks.due("in the stage 0", gala.end(), Checks.IMPOSSIBLE);
        gala.draw();
        Checks.swimAll(gala, 300, 310, 320, 330, 340);
        Checks.due("in the stage 1", gala.end(), Checks.IMPOSSIBLE);
        gala.finals();
        Checks.swimAll(gala, 300, 310, 320);
        Checks.due("somebody has not swum", gala.end(), Checks.IMPOSSIBLE);
        gala.swim(3, 0);
        gala.scratch(0);
        Checks.due("who was called has not swum", gala.end(), Checks.IMPOSSIBLE);
        gala.scratch(4);
        Checks.due("end()", gala.end(), 2);
        Checks.due("in the stage 3", gala.end(), Checks.IMPOSSIBLE);
        Checks.due("once alone", gala.count(7), 1);
    }

    private static void next() {
        GalaHeats gala = Checks.gala(4, 300, 310, 0, 330, 340, 0);
        gala.draw();
        Checks.swimAll(gala, 290, 315, 305, 330, 0, 0);
        gala.finals();
        gala.swim(0, 295);
        gala.swim(1, 309);
        gala.swim(2, 300);
        gala.scratch(3);
        gala.end();
        Checks.due("next()", gala.next(), 3);
        Checks.due("stage", gala.count(0), 0);
        int[] entries = {290, 309, 300, 330, 340, 0};
        for (int number = 0; number < entries.length; number++) {
            Checks.due("entry of " + number, gala.swimmer(number, 1), entries[number]);
            for (int what = 3; what <= 9; what++) {
                Checks.due("swimmer(" + number + ", " + what + ")", gala.swimmer(number, what), Checks.NONE);
            }
            Checks.due("scratched", gala.swimmer(number, 10), 0);
        }
        Checks.due("points stay", gala.count(11), 20);
        Checks.due("no heats", gala.count(3), 0);
        Checks.due("no final", gala.count(4), 0);
        Checks.due("no reserves", gala.count(5), 0);
        Checks.due("no times", gala.count(6), 0);
        Checks.due("the record stays", gala.count(8), 290);
        Checks.due("lanes stay", gala.count(20), 4);
        Checks.due("a new one enters", gala.enter(0, 100), 6);
        gala.draw();
        Checks.due("by the new entry times", gala.swimmer(0, 2), 1);
    }

    private static void nextBetters() {
        GalaHeats gala = Checks.gala(4, 0, 0, 0, 300, 0, 300);
        gala.draw();
        Checks.swimAll(gala, 290, 291, 292, 300, 500, 310);
        gala.finals();
        Checks.swimAll(gala, 0, 280, 293, 300);
        gala.end();
        Checks.due("four of them had none", gala.next(), 4);
        int[] entries = {290, 280, 292, 300, 500, 300};
        for (int number = 0; number < entries.length; number++) {
            Checks.due("entry of " + number, gala.swimmer(number, 1), entries[number]);
        }
    }

    private static void nextForgetsReserves() {
        GalaHeats gala = Checks.inFinal(4, 300, 310, 320, 330, 340, 350);
        Checks.swimAll(gala, 300, 310, 320, 330);
        gala.end();
        gala.next();
        Checks.due("no reserves", gala.reserve(0), Checks.NONE);
        gala.draw();
        Checks.swimAll(gala, 0, 310, 320, 330, 340, 350);
        gala.finals();
        Checks.due("reserve(0)", gala.reserve(0), 5);
        Checks.due("one alone", gala.reserve(1), Checks.NONE);
        Checks.due("called", gala.scratch(1), 5);
        Checks.due("nobody else", gala.scratch(5), 100);
    }

    private static void nextRefused() {
        GalaHeats gala = Checks.gala(4, 300);
        Checks.due("in the stage 0", gala.next(), Checks.IMPOSSIBLE);
        gala.draw();
        Checks.due("in the stage 1", gala.next(), Checks.IMPOSSIBLE);
        gala.swim(0, 300);
        gala.finals();
        gala.swim(0, 300);
        Checks.due("in the stage 2", gala.next(), Checks.IMPOSSIBLE);
        gala.end();
        Checks.due("none becomes better", gala.next(), 0);
        Checks.due("in the stage 0 again", gala.next(), Checks.IMPOSSIBLE);
    }
}
