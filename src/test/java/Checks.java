/** What the tests share: counting wrong answers, and short ways to bring a gala into a state. */
final class Checks {
    static final int INVALID = -1000001;
    static final int IMPOSSIBLE = -1000002;
    static final int LIMIT = -1000003;
    static final int NONE = -1000004;

    private static int checked;
    private static int wrong;

    private Checks() {
    }

    static void due(String call, long got, long want) {
        checked++;
        if (got != want) {
            wrong++;
            System.out.println(call + " answered " + got + ", due is " + want);
        }
    }

    /** Ends the test's machine: with 1 if an answer was wrong, or if none was looked at. */
    static void finish() {
        System.out.println(checked + " answers looked at, " + wrong + " not as due");
        System.exit(wrong == 0 && checked > 0 ? 0 : 1);
    }

    /** A gala with some lanes and these entry times, the clubs 0 to 5 in turn. */
    static GalaHeats gala(int lanes, int... entries) {
        GalaHeats gala = new GalaHeats();
        due("set(0, " + lanes + ")", gala.set(0, lanes), 8);
        for (int number = 0; number < entries.length; number++) {
            due("enter", gala.enter(number % 6, entries[number]), number);
        }
        return gala;
    }

    /** As many entry times as asked for, each greater than the one ahead of it: 200, 201, ... */
    static int[] rising(int swimmers) {
        int[] entries = new int[swimmers];
        for (int number = 0; number < swimmers; number++) {
            entries[number] = 200 + number;
        }
        return entries;
    }

    /** Swims these times, of the swimmers from 0 on; below 0: this one does not swim. */
    static void swimAll(GalaHeats gala, int... times) {
        for (int number = 0; number < times.length; number++) {
            if (times[number] >= 0) {
                due("swim(" + number + ", " + times[number] + ") is taken", gala.swim(number, times[number]) >= 0 ? 1 : 0, 1);
            }
        }
    }

    /** A gala in the stage 2: the times of the heats are the entry times. */
    static GalaHeats inFinal(int lanes, int... times) {
        GalaHeats gala = gala(lanes, times);
        due("draw() is done", gala.draw() > 0 ? 1 : 0, 1);
        swimAll(gala, times);
        due("finals() is done", gala.finals() > 0 ? 1 : 0, 1);
        return gala;
    }

    static void typeAll(GalaHeats gala, String text) {
        gala.clearText();
        for (int place = 0; place < text.length(); place++) {
            due("type", gala.type(text.charAt(place)), place + 1);
        }
    }

    /** The whole fault of a text, each part by its own call. */
    static void dueFault(GalaHeats gala, String text, int position, int reason, int cause) {
        typeAll(gala, text);
        due("\"" + text + "\": fault(0)", gala.fault(0), position);
        due("\"" + text + "\": fault(1)", gala.fault(1), reason);
        due("\"" + text + "\": fault(2)", gala.fault(2), cause);
        due("\"" + text + "\": play()", gala.play(), IMPOSSIBLE);
    }
}
