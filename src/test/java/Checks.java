import java.lang.reflect.InvocationTargetException;
import java.lang.reflect.Method;
import java.lang.reflect.Modifier;
import java.util.Arrays;
import java.util.Comparator;
import java.util.function.Supplier;
import java.util.function.ToIntFunction;

/** What the tests share: running the cases of a class, counting wrong answers, and short ways to bring a gala into a state. */
class Checks {
    static final int INVALID = -1000001;
    static final int IMPOSSIBLE = -1000002;
    static final int LIMIT = -1000003;
    static final int NONE = -1000004;
    static final int NOBODY = 100;
    static final int MIN = Integer.MIN_VALUE;
    static final int MAX = Integer.MAX_VALUE;

    private static final int STATES_KEPT = 4;

    private static String running = "";
    private static int cases;
    private static int checked;
    private static int wrong;

    // ---- running

    /** Runs each static method without parameters that is named after a promise, promiseNN_case, and ends the test's machine. */
    static void runCases(Class<?> tests, int firstPromise, int lastPromise) {
        boolean[] tested = new boolean[lastPromise + 1];
        Method[] methods = tests.getDeclaredMethods();
        Arrays.sort(methods, Comparator.comparing(Method::getName));
        for (Method method : methods) {
            if (method.getParameterCount() == 0 && method.getReturnType() == void.class && !method.isSynthetic()) {
                int promise = promiseOf(method.getName());
                if (promise < firstPromise || promise > lastPromise || !Modifier.isStatic(method.getModifiers())) {
                    fail(method.getName() + " is not named after a promise of this class, or is not static");
                } else {
                    tested[promise] = true;
                    runCase(method);
                }
            }
        }
        for (int promise = firstPromise; promise <= lastPromise; promise++) {
            if (!tested[promise]) {
                fail("no case for the promise " + promise);
            }
        }
        finish();
    }

    private static int promiseOf(String name) {
        return name.matches("promise[0-9][0-9]_.+") ? Integer.parseInt(name.substring(7, 9)) : -1;
    }

    private static void runCase(Method method) {
        cases++;
        running = method.getName() + ": ";
        int before = checked;
        try {
            method.invoke(null);
        } catch (InvocationTargetException thrown) {
            fail("threw " + thrown.getCause());
        } catch (IllegalAccessException closed) {
            fail("cannot be run: " + closed.getMessage());
        }
        if (checked == before) {
            fail("looked at no answer");
        }
        running = "";
    }

    private static void fail(String what) {
        wrong++;
        System.out.println(running + what);
    }

    static void due(String call, long got, long want) {
        checked++;
        if (got != want) {
            fail(call + " answered " + got + ", due is " + want);
        }
    }

    static void dueTaken(String call, int answer) {
        checked++;
        if (answer < 0) {
            fail(call + " answered " + answer + ", due is no error");
        }
    }

    /** Ends the test's machine: with 1 if an answer was wrong, or if none was looked at. */
    static void finish() {
        System.out.println((cases > 0 ? cases + " cases, " : "") + checked + " answers looked at, " + wrong + " not as due");
        System.exit(wrong == 0 && checked > 0 ? 0 : 1);
    }

    // ---- galas in a state

    /** A gala with some lanes and these entry times, the clubs 0 to 5 in turn. */
    static GalaHeats entered(int lanes, int... entries) {
        GalaHeats gala = new GalaHeats();
        due("set(0, " + lanes + ")", gala.set(0, lanes), 8);
        for (int number = 0; number < entries.length; number++) {
            due("enter", gala.enter(number % 6, entries[number]), number);
        }
        return gala;
    }

    static GalaHeats drawn(int lanes, int... entries) {
        GalaHeats gala = entered(lanes, entries);
        dueTaken("draw()", gala.draw());
        return gala;
    }

    /** In the stage 1, and all have swum: the times of the heats are the entry times. */
    static GalaHeats swum(int lanes, int... times) {
        GalaHeats gala = drawn(lanes, times);
        swimAll(gala, times);
        return gala;
    }

    static GalaHeats inFinal(int lanes, int... times) {
        GalaHeats gala = swum(lanes, times);
        dueTaken("finals()", gala.finals());
        return gala;
    }

    static GalaHeats inFinalWithReserves(int reserves, int lanes, int... times) {
        GalaHeats gala = entered(lanes, times);
        due("set(2, " + reserves + ")", gala.set(2, reserves), 2);
        dueTaken("draw()", gala.draw());
        swimAll(gala, times);
        dueTaken("finals()", gala.finals());
        return gala;
    }

    /** In the stage 3: the times of the heats and of the final are the entry times. */
    static GalaHeats over(int lanes, int... times) {
        GalaHeats gala = inFinal(lanes, times);
        for (int number = 0; number < times.length; number++) {
            if (gala.swimmer(number, 7) != NONE) {
                dueTaken("swim", gala.swim(number, times[number]));
            }
        }
        dueTaken("end()", gala.end());
        return gala;
    }

    /** The swimmers 0 to 4 of the clubs 0 to 4, times from 300 on, 10 apart; from the stage 2 on 4 is the one reserve. */
    static GalaHeats inStage(int stage) {
        int[] times = {300, 310, 320, 330, 340};
        return stage == 0 ? entered(4, times) : stage == 1 ? drawn(4, times) : stage == 2 ? inFinal(4, times) : over(4, times);
    }

    /** As many entry times as asked for, each greater than the one ahead of it: 200, 201, ... */
    static int[] rising(int swimmers) {
        int[] entries = new int[swimmers];
        for (int number = 0; number < swimmers; number++) {
            entries[number] = 200 + number;
        }
        return entries;
    }

    /** The fastest last: the swimmer 0 is at the last rank. */
    static int[] falling(int swimmers) {
        int[] entries = new int[swimmers];
        for (int number = 0; number < swimmers; number++) {
            entries[number] = 400 - number;
        }
        return entries;
    }

    /** Swims these times, of the swimmers from 0 on; below 0: this one does not swim. */
    static void swimAll(GalaHeats gala, int... times) {
        for (int number = 0; number < times.length; number++) {
            if (times[number] >= 0) {
                dueTaken("swim(" + number + ", " + times[number] + ")", gala.swim(number, times[number]));
            }
        }
    }

    static void typeAll(GalaHeats gala, String text) {
        gala.clearText();
        for (int place = 0; place < text.length(); place++) {
            due("type", gala.type(text.charAt(place)), place + 1);
        }
    }

    static GalaHeats withText(GalaHeats gala, String text) {
        typeAll(gala, text);
        return gala;
    }

    // ---- whole states

    /** The swimmers in the lanes from 1 on, NONE for one that is free. */
    static void dueLanes(GalaHeats gala, int heat, int... swimmers) {
        for (int lane = 1; lane <= swimmers.length; lane++) {
            due("at(" + heat + ", " + lane + ")", gala.at(heat, lane), swimmers[lane - 1]);
        }
    }

    /** swimmer(number, first), swimmer(number, first + 1), ... */
    static void dueSwimmer(GalaHeats gala, int number, int first, int... values) {
        for (int place = 0; place < values.length; place++) {
            int what = first + place;
            due("swimmer(" + number + ", " + what + ")", gala.swimmer(number, what), values[place]);
        }
    }

    /** All that the questions tell, but how many states there are; some 250 calls, so that an object stays below its 512. */
    static String told(GalaHeats gala) {
        StringBuilder told = new StringBuilder();
        for (int what : new int[] {0, 1, 2, 3, 4, 5, 6, 7, 8, 9, 10, 11, 13, 20, 21, 22}) {
            told.append("count(").append(what).append(") ").append(gala.count(what)).append('\n');
        }
        for (int number : new int[] {0, 1, 2, 3, 4, 5, 28, 29}) {
            for (int what = 0; what < 12; what++) {
                told.append("swimmer(").append(number).append(", ").append(what).append(") ").append(gala.swimmer(number, what)).append('\n');
            }
            for (int what = 0; what < 3; what++) {
                told.append("ifDrawn(").append(number).append(", ").append(what).append(") ").append(gala.ifDrawn(number, what)).append('\n');
            }
        }
        for (int heat = -1; heat < 4; heat++) {
            for (int lane = 1; lane <= 8; lane++) {
                told.append("at(").append(heat).append(", ").append(lane).append(") ").append(gala.at(heat, lane)).append('\n');
            }
            for (int what = 0; what < 5; what++) {
                told.append("heat(").append(heat).append(", ").append(what).append(") ").append(gala.heat(heat, what)).append('\n');
            }
        }
        for (int rank = 0; rank < 6; rank++) {
            told.append("reserve, missing, leader, points of ").append(rank).append(' ').append(gala.reserve(rank)).append(' ')
                .append(gala.missing(rank)).append(' ').append(gala.leader(rank)).append(' ').append(gala.points(rank)).append('\n');
        }
        for (int what = 0; what < 3; what++) {
            told.append("fault(").append(what).append(") ").append(gala.fault(what)).append('\n');
        }
        return told.append("lane(0, 0), why(), mean() ").append(gala.lane(0, 0)).append(' ').append(gala.why()).append(' ')
            .append(gala.mean()).toString();
    }

    static void dueSame(String call, String got, String want) {
        checked++;
        if (!got.equals(want)) {
            String[] gotLines = got.split("\n");
            String[] wantLines = want.split("\n");
            for (int line = 0; line < Math.min(gotLines.length, wantLines.length); line++) {
                if (!gotLines[line].equals(wantLines[line])) {
                    fail(call + ": " + gotLines[line] + ", due is " + wantLines[line]);
                    return;
                }
            }
            fail(call + ": other answers than are due");
        }
    }

    /** The call is refused, and neither the state nor one of the history is another one then. */
    static void dueNothingChanged(String call, Supplier<GalaHeats> state, ToIntFunction<GalaHeats> refused, int error) {
        for (int undos = 0; undos <= STATES_KEPT; undos++) {
            GalaHeats untouched = state.get();
            GalaHeats asked = state.get();
            due(call, refused.applyAsInt(asked), error);
            due(call + ": states", asked.count(12), untouched.count(12));
            for (int each = 0; each < undos; each++) {
                due(call + ": undo()", asked.undo(), untouched.undo());
            }
            dueSame(call + ", " + undos + " times undone", told(asked), told(untouched));
        }
    }

    /** The call is one change: one more state is there, or the oldest is dropped, and undo() restores what was. */
    static void dueOneChange(String call, Supplier<GalaHeats> state, ToIntFunction<GalaHeats> change) {
        GalaHeats before = state.get();
        GalaHeats gala = state.get();
        int states = Math.min(before.count(12) + 1, STATES_KEPT);
        dueTaken(call, change.applyAsInt(gala));
        due(call + ": states", gala.count(12), states);
        due(call + ": undo()", gala.undo(), states - 1);
        dueSame(call + ", undone", told(gala), told(before));
    }

    /** The call is a question, or of the text: there are no more states, and undo() restores the one ahead of the last change. */
    static void dueNoChange(String call, Supplier<GalaHeats> state, ToIntFunction<GalaHeats> question) {
        GalaHeats untouched = state.get();
        GalaHeats asked = state.get();
        dueTaken(call, question.applyAsInt(asked));
        due(call + ": states", asked.count(12), untouched.count(12));
        due(call + ": undo()", asked.undo(), untouched.undo());
        due(call + ": swimmers", asked.count(1), untouched.count(1));
        due(call + ": times", asked.count(6), untouched.count(6));
        due(call + ": stage", asked.count(0), untouched.count(0));
    }
}
