/** Promises 1 to 4: a new object, enter, scratch, set. */
public final class EntriesTest {
    public static void main(String[] args) {
        newObject();
        enter();
        enterRefused();
        scratchInEntries();
        scratchInHeats();
        scratchInFinal();
        scratchRefused();
        set();
        setRefused();
        Checks.finish();
    }

    private static void newObject() {
        GalaHeats gala = new GalaHeats();
        Checks.due("stage", gala.count(0), 0);
        for (int what = 1; what <= 7; what++) {
            Checks.due("new: count(" + what + ")", gala.count(what), 0);
        }
        for (int what = 10; what <= 13; what++) {
            Checks.due("new: count(" + what + ")", gala.count(what), 0);
        }
        Checks.due("new: record", gala.count(8), Checks.NONE);
        Checks.due("new: who swam it", gala.count(9), Checks.NONE);
        Checks.due("new: lanes", gala.count(20), 8);
        Checks.due("new: fewest", gala.count(21), 3);
        Checks.due("new: reserves", gala.count(22), 2);
        Checks.due("new: swimmer(0, 0)", gala.swimmer(0, 0), Checks.INVALID);
    }

    private static void enter() {
        GalaHeats gala = new GalaHeats();
        Checks.due("enter(0, 100)", gala.enter(0, 100), 0);
        Checks.due("enter(5, 999)", gala.enter(5, 999), 1);
        Checks.due("enter(3, 0)", gala.enter(3, 0), 2);
        Checks.due("club of 1", gala.swimmer(1, 0), 5);
        Checks.due("entry of 1", gala.swimmer(1, 1), 999);
        Checks.due("entry of 2", gala.swimmer(2, 1), 0);
        Checks.due("swimmers", gala.count(1), 3);
        Checks.due("states", gala.count(12), 3);
    }

    private static void enterRefused() {
        GalaHeats gala = new GalaHeats();
        int[][] wrong = {{-1, 200}, {6, 200}, {0, 99}, {0, 1000}, {0, 1}, {0, -1}, {Integer.MIN_VALUE, 0}, {0, Integer.MAX_VALUE}};
        for (int[] pair : wrong) {
            Checks.due("enter(" + pair[0] + ", " + pair[1] + ")", gala.enter(pair[0], pair[1]), Checks.INVALID);
        }
        Checks.due("no swimmer came", gala.count(1), 0);
        Checks.due("no state came", gala.count(12), 0);
        for (int number = 0; number < 30; number++) {
            Checks.due("enter", gala.enter(1, 500), number);
        }
        Checks.due("the 31st", gala.enter(1, 500), Checks.LIMIT);
        Checks.due("the 31st, wrong club", gala.enter(6, 500), Checks.INVALID);
        Checks.due("still 30", gala.count(1), 30);
        gala.draw();
        Checks.due("the 31st in the stage 1", gala.enter(1, 500), Checks.IMPOSSIBLE);
        Checks.due("wrong entry in the stage 1", gala.enter(1, 99), Checks.INVALID);
    }

    private static void scratchInEntries() {
        GalaHeats gala = Checks.gala(4, 300, 310, 320);
        Checks.due("scratch(0)", gala.scratch(0), 100);
        Checks.due("scratched", gala.swimmer(0, 10), 1);
        Checks.due("as a set", gala.count(2), 1);
        gala.draw();
        Checks.due("not drawn", gala.swimmer(0, 3), Checks.NONE);
        Checks.due("no lane", gala.swimmer(0, 4), Checks.NONE);
        Checks.due("the next one in the middle", gala.at(0, 2), 1);
        Checks.due("two in it", gala.heat(0, 0), 2);
    }

    private static void scratchInHeats() {
        GalaHeats gala = Checks.gala(4, 300, 310, 320);
        gala.draw();
        gala.swim(0, 290);
        Checks.due("scratch(0)", gala.scratch(0), 100);
        Checks.due("lane stays free", gala.at(0, 2), Checks.NONE);
        Checks.due("the others stay", gala.at(0, 3), 1);
        Checks.due("in no heat", gala.swimmer(0, 3), Checks.NONE);
        Checks.due("in no lane", gala.swimmer(0, 4), Checks.NONE);
        Checks.due("time is gone", gala.swimmer(0, 5), Checks.NONE);
        Checks.due("no rank by it", gala.swimmer(0, 6), Checks.NONE);
        Checks.due("no times", gala.count(6), 0);
        Checks.due("two are left", gala.heat(0, 0), 2);
        Checks.due("the record stays", gala.count(8), 290);
        Checks.due("swims no more", gala.swim(0, 290), Checks.IMPOSSIBLE);
    }

    private static void scratchInFinal() {
        GalaHeats gala = new GalaHeats();
        gala.set(0, 4);
        gala.set(2, 3);
        for (int number = 0; number < 9; number++) {
            gala.enter(number % 6, 300 + number);
        }
        gala.draw();
        Checks.swimAll(gala, 300, 301, 302, 303, 304, 305, 306, 307, 0);
        Checks.due("finals()", gala.finals(), 15);
        Checks.due("a time of the final", gala.swim(1, 280), 0);
        Checks.due("a reserve scratches", gala.scratch(5), 100);
        Checks.due("one who is neither scratches", gala.scratch(7), 100);
        Checks.due("lane of 1", gala.swimmer(1, 7), 3);
        Checks.due("the first reserve is called", gala.scratch(1), 4);
        Checks.due("into the lane", gala.at(-1, 3), 4);
        Checks.due("without a time", gala.swimmer(4, 8), Checks.NONE);
        Checks.due("the time of the final is gone", gala.swimmer(1, 8), Checks.NONE);
        Checks.due("so is the lane", gala.swimmer(1, 7), Checks.NONE);
        Checks.due("the time of the heat stays", gala.swimmer(1, 5), 301);
        Checks.due("so does the heat", gala.swimmer(1, 3) >= 0 ? 1 : 0, 1);
        Checks.due("and its rank", gala.swimmer(1, 6), 1);
        Checks.due("a reserve who scratched is not called", gala.scratch(4), 6);
        Checks.due("the same lane", gala.at(-1, 3), 6);
        Checks.due("called so far", gala.count(10), 2);
        Checks.due("nobody is left to be called", gala.scratch(6), 100);
        Checks.due("it stays free", gala.at(-1, 3), Checks.NONE);
        Checks.due("in the final", gala.count(4), 13);
        Checks.due("called so far", gala.count(10), 2);
    }

    private static void scratchRefused() {
        GalaHeats gala = Checks.gala(4, 300, 310);
        Checks.due("scratch(-1)", gala.scratch(-1), Checks.INVALID);
        Checks.due("scratch(2)", gala.scratch(2), Checks.INVALID);
        Checks.due("scratch(max)", gala.scratch(Integer.MAX_VALUE), Checks.INVALID);
        gala.scratch(1);
        Checks.due("scratch(1) again", gala.scratch(1), Checks.IMPOSSIBLE);
        gala.draw();
        Checks.due("again in the stage 1", gala.scratch(1), Checks.IMPOSSIBLE);
        gala.swim(0, 300);
        gala.finals();
        gala.swim(0, 300);
        gala.end();
        Checks.due("in the stage 3", gala.scratch(0), Checks.IMPOSSIBLE);
        Checks.due("nobody in the stage 3", gala.scratch(2), Checks.INVALID);
        Checks.due("nothing changed", gala.count(2), 2);
    }

    private static void set() {
        GalaHeats gala = new GalaHeats();
        Checks.due("set(0, 4)", gala.set(0, 4), 8);
        Checks.due("set(0, 10)", gala.set(0, 10), 4);
        Checks.due("set(1, 1)", gala.set(1, 1), 3);
        Checks.due("set(1, 3)", gala.set(1, 3), 1);
        Checks.due("set(2, 0)", gala.set(2, 0), 2);
        Checks.due("set(2, 4)", gala.set(2, 4), 0);
        Checks.due("set(2, 4) again", gala.set(2, 4), 4);
        Checks.due("count(20)", gala.count(20), 10);
        Checks.due("count(21)", gala.count(21), 3);
        Checks.due("count(22)", gala.count(22), 4);
        Checks.due("states", gala.count(12), 4);
    }

    private static void setRefused() {
        GalaHeats gala = new GalaHeats();
        int[][] wrong = {{-1, 5}, {3, 4}, {0, 3}, {0, 11}, {1, 0}, {1, 4}, {2, -1}, {2, 5}, {Integer.MAX_VALUE, 0}};
        for (int[] pair : wrong) {
            Checks.due("set(" + pair[0] + ", " + pair[1] + ")", gala.set(pair[0], pair[1]), Checks.INVALID);
        }
        Checks.due("no states", gala.count(12), 0);
        gala.enter(0, 200);
        gala.draw();
        Checks.due("in the stage 1", gala.set(0, 8), Checks.IMPOSSIBLE);
        Checks.due("wrong in the stage 1", gala.set(0, 11), Checks.INVALID);
        gala.swim(0, 200);
        gala.finals();
        Checks.due("in the stage 2", gala.set(1, 2), Checks.IMPOSSIBLE);
        gala.swim(0, 200);
        gala.end();
        Checks.due("in the stage 3", gala.set(2, 2), Checks.IMPOSSIBLE);
        gala.next();
        Checks.due("in the stage 0 again", gala.set(2, 1), 2);
    }
}
