/** Promises 10 to 14: swimmer, at, heat, reserve, points. */
public final class SituationTest {
    public static void main(String[] args) {
        swimmerByEntry();
        swimmerInStages();
        swimmerRankByTimes();
        swimmerRefused();
        at();
        atRefused();
        heat();
        heatOfTheFinal();
        heatRefused();
        reserve();
        reserveRefused();
        points();
        Checks.finish();
    }

    private static void dueSwimmer(GalaHeats gala, int number, int first, int... values) {
        for (int place = 0; place < values.length; place++) {
            int what = first + place;
            Checks.due("swimmer(" + number + ", " + what + ")", gala.swimmer(number, what), values[place]);
        }
    }

    private static void swimmerByEntry() {
        GalaHeats gala = Checks.gala(4, 0, 500, 400, 400, 0, 399);
        dueSwimmer(gala, 0, 0, 0, 0, 4);
        dueSwimmer(gala, 1, 0, 1, 500, 3);
        dueSwimmer(gala, 2, 0, 2, 400, 1);
        dueSwimmer(gala, 3, 0, 3, 400, 2);
        dueSwimmer(gala, 4, 0, 4, 0, 5);
        dueSwimmer(gala, 5, 0, 5, 399, 0);
        gala.scratch(2);
        dueSwimmer(gala, 2, 0, 2, 400, Checks.NONE);
        Checks.due("among those who are not scratched", gala.swimmer(3, 2), 1);
        gala.draw();
        gala.scratch(5);
        Checks.due("among those who are not scratched now", gala.swimmer(3, 2), 0);
        Checks.due("scratched in the stage 1", gala.swimmer(5, 2), Checks.NONE);
    }

    private static void swimmerInStages() {
        int none = Checks.NONE;
        GalaHeats gala = Checks.gala(4, 300, 310, 320, 330, 340);
        dueSwimmer(gala, 0, 3, none, none, none, none, none, none, none, 0, 0);
        gala.draw();
        dueSwimmer(gala, 0, 3, 1, 2, none, none, none, none, none, 0, 0);
        dueSwimmer(gala, 3, 3, 0, 3, none, none, none, none, none, 0, 0);
        Checks.swimAll(gala, 0, 310, 320, 330, 340);
        dueSwimmer(gala, 0, 3, 1, 2, 0, none, none, none, none, 0, 0);
        dueSwimmer(gala, 3, 3, 0, 3, 330, 2, none, none, none, 0, 0);
        gala.finals();
        dueSwimmer(gala, 0, 3, 1, 2, 0, none, none, none, none, 0, 0);
        dueSwimmer(gala, 3, 3, 0, 3, 330, 2, 1, none, none, 0, 0);
        Checks.swimAll(gala, -1, 305, 0, 304, 400);
        dueSwimmer(gala, 2, 3, 1, 3, 320, 1, 3, 0, none, 0, 0);
        gala.end();
        dueSwimmer(gala, 2, 3, 1, 3, 320, 1, 3, 0, none, 0, 0);
        dueSwimmer(gala, 3, 3, 0, 3, 330, 2, 1, 304, 1, 0, 10);
        dueSwimmer(gala, 4, 3, 1, 1, 340, 3, 4, 400, 3, 0, 4);
        gala.next();
        dueSwimmer(gala, 3, 3, none, none, none, none, none, none, none, 0, 10);
    }

    private static void swimmerRankByTimes() {
        GalaHeats gala = Checks.gala(4, 320, 310, 0, 300, 300, 330);
        gala.draw();
        gala.swim(0, 400);
        Checks.due("alone", gala.swimmer(0, 6), 0);
        Checks.swimAll(gala, 400, 400, 400, 400, 400, 399);
        int[] ranks = {4, 3, 5, 1, 2, 0};
        for (int number = 0; number < 6; number++) {
            Checks.due("rank of " + number, gala.swimmer(number, 6), ranks[number]);
        }
        gala.finals();
        gala.scratch(3);
        Checks.due("also of one who scratched in the stage 2", gala.swimmer(3, 6), 1);
        Checks.due("and among these", gala.swimmer(2, 6), 5);
    }

    private static void swimmerRefused() {
        GalaHeats gala = Checks.gala(4, 300);
        Checks.due("swimmer(-1, 0)", gala.swimmer(-1, 0), Checks.INVALID);
        Checks.due("swimmer(1, 0)", gala.swimmer(1, 0), Checks.INVALID);
        Checks.due("swimmer(30, 0)", gala.swimmer(30, 0), Checks.INVALID);
        Checks.due("swimmer(0, -1)", gala.swimmer(0, -1), Checks.INVALID);
        Checks.due("swimmer(0, 12)", gala.swimmer(0, 12), Checks.INVALID);
        Checks.due("rather than NOT_FOUND", gala.swimmer(1, 9), Checks.INVALID);
    }

    private static void at() {
        GalaHeats gala = Checks.gala(4, 300, 310, 320, 330, 340);
        gala.draw();
        int[][] lanes = {{Checks.NONE, 1, 3, Checks.NONE}, {4, 0, 2, Checks.NONE}};
        for (int heat = 0; heat < 2; heat++) {
            for (int lane = 1; lane <= 4; lane++) {
                Checks.due("at(" + heat + ", " + lane + ")", gala.at(heat, lane), lanes[heat][lane - 1]);
            }
        }
        Checks.swimAll(gala, 304, 303, 302, 301, 300);
        gala.finals();
        int[] last = {2, 4, 3, 1};
        for (int lane = 1; lane <= 4; lane++) {
            Checks.due("at(-1, " + lane + ")", gala.at(-1, lane), last[lane - 1]);
        }
        gala.scratch(4);
        Checks.due("the one who was called", gala.at(-1, 2), 0);
        Checks.due("in the heat still", gala.at(1, 1), 4);
    }

    private static void atRefused() {
        GalaHeats gala = Checks.gala(4, 300, 310, 320, 330, 340);
        Checks.due("no heats in the stage 0", gala.at(0, 1), Checks.INVALID);
        gala.draw();
        Checks.due("no final yet", gala.at(-1, 1), Checks.INVALID);
        Checks.due("at(2, 1)", gala.at(2, 1), Checks.INVALID);
        Checks.due("at(-2, 1)", gala.at(-2, 1), Checks.INVALID);
        Checks.due("at(0, 0)", gala.at(0, 0), Checks.INVALID);
        Checks.due("at(0, -1)", gala.at(0, -1), Checks.INVALID);
        Checks.due("at(0, 5)", gala.at(0, 5), Checks.INVALID);
        Checks.swimAll(gala, 300, 310, 320, 330, 340);
        gala.finals();
        Checks.due("at(-1, 0)", gala.at(-1, 0), Checks.INVALID);
        Checks.due("at(-1, 5)", gala.at(-1, 5), Checks.INVALID);
        Checks.swimAll(gala, 300, 310, 320, 330);
        gala.end();
        Checks.due("in the stage 3", gala.at(-1, 2), 0);
        gala.next();
        Checks.due("no final in the next event", gala.at(-1, 2), Checks.INVALID);
        Checks.due("no heats in the next event", gala.at(0, 2), Checks.INVALID);
    }

    private static void dueHeat(GalaHeats gala, int heat, int... values) {
        for (int what = 0; what < 5; what++) {
            Checks.due("heat(" + heat + ", " + what + ")", gala.heat(heat, what), values[what]);
        }
    }

    private static void heat() {
        GalaHeats gala = Checks.gala(4, 300, 0, 320, 0, 340, 400);
        gala.draw();
        dueHeat(gala, 1, 3, 0, 300, 340, Checks.NONE);
        dueHeat(gala, 0, 3, 0, 320, 400, Checks.NONE);
        gala.swim(0, 0);
        dueHeat(gala, 1, 3, 1, 300, 340, Checks.NONE);
        gala.swim(0, 350);
        gala.swim(2, 340);
        gala.swim(4, 345);
        dueHeat(gala, 1, 3, 2, 300, 340, 345);
        dueHeat(gala, 0, 3, 1, 320, 400, 340);
    }

    private static void heatOfTheFinal() {
        GalaHeats gala = Checks.inFinal(4, 300, 310, 320, 330, 340, 350);
        dueHeat(gala, -1, 4, 0, 300, 330, Checks.NONE);
        gala.swim(1, 290);
        gala.swim(2, 0);
        dueHeat(gala, -1, 4, 2, 300, 330, 290);
        gala.scratch(1);
        dueHeat(gala, -1, 4, 1, 300, 340, Checks.NONE);
        dueHeat(gala, 0, 3, 3, 310, 350, 310);
        GalaHeats bare = Checks.gala(4, 0, 0);
        bare.draw();
        dueHeat(bare, 0, 2, 0, Checks.NONE, Checks.NONE, Checks.NONE);
        bare.scratch(0);
        bare.scratch(1);
        dueHeat(bare, 0, 0, 0, Checks.NONE, Checks.NONE, Checks.NONE);
    }

    private static void heatRefused() {
        GalaHeats gala = Checks.gala(4, 300);
        Checks.due("no heats in the stage 0", gala.heat(0, 0), Checks.INVALID);
        gala.draw();
        Checks.due("heat(1, 0)", gala.heat(1, 0), Checks.INVALID);
        Checks.due("heat(-1, 0)", gala.heat(-1, 0), Checks.INVALID);
        Checks.due("heat(-2, 0)", gala.heat(-2, 0), Checks.INVALID);
        Checks.due("heat(0, -1)", gala.heat(0, -1), Checks.INVALID);
        Checks.due("heat(0, 5)", gala.heat(0, 5), Checks.INVALID);
        Checks.due("heat(1, 4), rather than NOT_FOUND", gala.heat(1, 4), Checks.INVALID);
        gala.swim(0, 300);
        gala.finals();
        Checks.due("heat(-1, 0)", gala.heat(-1, 0), 1);
        Checks.due("heat(-1, 5)", gala.heat(-1, 5), Checks.INVALID);
    }

    private static void reserve() {
        GalaHeats gala = Checks.gala(4, 300, 310, 320, 330, 340, 350, 360, 370, 380);
        gala.set(2, 4);
        gala.draw();
        Checks.swimAll(gala, 300, 310, 320, 330, 364, 363, 362, 361, 380);
        Checks.due("ahead of the stage 2", gala.reserve(0), Checks.NONE);
        gala.finals();
        dueReserves(gala, 7, 6, 5, 4);
        gala.scratch(6);
        dueReserves(gala, 7, 5, 4);
        gala.scratch(0);
        dueReserves(gala, 5, 4);
        gala.scratch(7);
        dueReserves(gala, 4);
        gala.scratch(1);
        dueReserves(gala);
        Checks.due("called so far", gala.count(10), 3);
    }

    private static void dueReserves(GalaHeats gala, int... numbers) {
        for (int rank = 0; rank < numbers.length; rank++) {
            Checks.due("reserve(" + rank + ")", gala.reserve(rank), numbers[rank]);
        }
        Checks.due("reserve(" + numbers.length + ")", gala.reserve(numbers.length), Checks.NONE);
        Checks.due("count(5)", gala.count(5), numbers.length);
    }

    private static void reserveRefused() {
        GalaHeats gala = Checks.inFinal(4, 300, 310, 320, 330, 340);
        Checks.due("reserve(-1)", gala.reserve(-1), Checks.INVALID);
        Checks.due("reserve(min)", gala.reserve(Integer.MIN_VALUE), Checks.INVALID);
        Checks.due("reserve(max)", gala.reserve(Integer.MAX_VALUE), Checks.NONE);
        gala = new GalaHeats();
        Checks.due("reserve(-1)", gala.reserve(-1), Checks.INVALID);
        Checks.due("reserve(0)", gala.reserve(0), Checks.NONE);
        gala = Checks.gala(4, 300, 310, 320, 330, 340);
        gala.set(2, 0);
        gala.draw();
        Checks.swimAll(gala, 300, 310, 320, 330, 340);
        gala.finals();
        dueReserves(gala);
    }

    private static void points() {
        GalaHeats gala = Checks.gala(4, 300, 310, 320, 330, 340, 350, 290);
        for (int event = 1; event <= 2; event++) {
            gala.draw();
            Checks.swimAll(gala, 300, 310, 320, 330, 340, 350, 290);
            gala.finals();
            Checks.swimAll(gala, 200, 210, 220, -1, -1, -1, 205);
            gala.end();
            Checks.due("the places 1 and 2", gala.points(0), 16 * event);
            Checks.due("the place 3", gala.points(1), 4 * event);
            Checks.due("the place 4", gala.points(2), 2 * event);
            Checks.due("no place", gala.points(3), 0);
            Checks.due("a swimmer's share", gala.swimmer(6, 11), 6 * event);
            gala.next();
        }
        Checks.due("points(-1)", gala.points(-1), Checks.INVALID);
        Checks.due("points(6)", gala.points(6), Checks.INVALID);
        Checks.due("points(5)", gala.points(5), 0);
    }
}
