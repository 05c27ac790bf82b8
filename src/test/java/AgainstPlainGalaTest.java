/** Long runs of calls, put together by a fixed sequence of numbers: the program and the plain gala answer alike. */
public final class AgainstPlainGalaTest {
    private static final int RUNS = 1500;
    private static final int CALLS = 512;
    private static final int CALLS_AHEAD_OF_PLAY = 120;

    private long seed;
    private int run;
    private int calls;
    private GalaHeats gala;
    private PlainGala plain;
    private final int[] reached = new int[4];
    private int playsOverStages;

    public static void main(String[] args) {
        AgainstPlainGalaTest test = new AgainstPlainGalaTest();
        for (int run = 0; run < RUNS; run++) {
            test.begin(run);
            test.doMixedRun();
            test.begin(RUNS + run);
            test.doRunThatEndsInQuestions();
        }
        for (int stage = 0; stage < 4; stage++) {
            Checks.due("stage " + stage + " was reached often (1: yes)", test.reached[stage] > RUNS * 10 ? 1 : 0, 1);
        }
        Checks.due("plays went over more than one stage often (1: yes)", test.playsOverStages > RUNS / 10 ? 1 : 0, 1);
        Checks.finish();
    }

    /** A number from 0 to the bound, without it. */
    private int pick(int bound) {
        seed = seed * 6364136223846793005L + 1442695040888963407L;
        return (int) Math.floorMod(seed >>> 33, (long) bound);
    }

    private void begin(int itsNumber) {
        run = itsNumber;
        seed = 77 + 1000003L * run;
        calls = 0;
        gala = new GalaHeats();
        plain = new PlainGala();
    }

    private void doMixedRun() {
        int eagerness = 2 + pick(12);
        while (calls < CALLS) {
            int kind = pick(10);
            if (kind < 4) {
                stepOn(eagerness);
            } else if (kind == 4) {
                anyChange();
            } else if (kind == 5 && pick(3) == 0) {
                text();
            } else {
                question();
            }
        }
    }

    /** A play of many orders and some undos: what they leave is looked at by all the calls that are left. */
    private void doRunThatEndsInQuestions() {
        int eagerness = 2 + pick(6);
        while (calls < CALLS_AHEAD_OF_PLAY) {
            if (pick(8) == 0) {
                anyChange();
            } else {
                stepOn(eagerness);
            }
        }
        playPossibleOrders();
        for (int undone = pick(6); undone > 0; undone--) {
            same("undo()", gala.undo(), plain.undo());
        }
        while (calls < CALLS) {
            question();
        }
    }

    private void same(String call, int got, int want) {
        calls++;
        Checks.due("run " + run + ", call " + calls + ", stage " + plain.count(0) + ": " + call, got, want);
    }

    private int time() {
        int kind = pick(12);
        return kind == 0 ? 0 : kind == 1 ? 98 + pick(4) : kind == 2 ? 997 + pick(4) : kind < 8 ? 200 + pick(8) : 100 + pick(900);
    }

    private int number() {
        if (pick(100) == 0) {
            return pick(2) == 0 ? Integer.MIN_VALUE : Integer.MAX_VALUE;
        }
        return pick(25) == 0 ? pick(33) - 1 : pick(Math.max(1, plain.count(1)));
    }

    private int orFar(int usual) {
        int kind = pick(100);
        return kind == 0 ? Integer.MIN_VALUE : kind == 1 ? Integer.MAX_VALUE : usual;
    }

    /** What brings a gala on from stage to stage. */
    private void stepOn(int eagerness) {
        int stage = plain.count(0);
        reached[stage]++;
        boolean goesOn = plain.why() == 0 && pick(eagerness) == 0;
        if (stage == 0) {
            if (goesOn) {
                same("draw()", gala.draw(), plain.draw());
            } else {
                enter(pick(6), time());
            }
        } else if (stage == 3) {
            if (goesOn) {
                same("next()", gala.next(), plain.next());
            }
        } else if (plain.why() == 0) {
            if (stage == 1) {
                same("finals()", gala.finals(), plain.finals());
            } else {
                same("end()", gala.end(), plain.end());
            }
        } else if (plain.missing(0) >= 0) {
            swim(plain.missing(0), time());
        } else {
            swim(number(), time());
        }
    }

    private void enter(int club, int entry) {
        same("enter(" + club + ", " + entry + ")", gala.enter(club, entry), plain.enter(club, entry));
    }

    private void swim(int number, int time) {
        same("swim(" + number + ", " + time + ")", gala.swim(number, time), plain.swim(number, time));
    }

    private void anyChange() {
        int number = number();
        int what = pick(5) - 1;
        int value = pick(12);
        switch (pick(12)) {
            case 0:
                enter(pick(8) - 1, time());
                break;
            case 1:
            case 2:
            case 3:
                same("scratch(" + number + ")", gala.scratch(number), plain.scratch(number));
                break;
            case 4:
            case 5:
                same("set(" + what + ", " + value + ")", gala.set(what, value), plain.set(what, value));
                break;
            case 6:
                same("draw()", gala.draw(), plain.draw());
                break;
            case 7:
                swim(number, time());
                break;
            case 8:
                same("finals()", gala.finals(), plain.finals());
                break;
            case 9:
                same("end()", gala.end(), plain.end());
                break;
            case 10:
                same("next()", gala.next(), plain.next());
                break;
            default:
                same("undo()", gala.undo(), plain.undo());
                break;
        }
    }

    private void question() {
        int number = number();
        int what = orFar(pick(14) - 1);
        int heat = orFar(pick(6) - 1);
        int lane = orFar(pick(10));
        int rank = orFar(pick(7) - 1);
        switch (pick(14)) {
            case 0:
                same("at(" + heat + ", " + lane + ")", gala.at(heat, lane), plain.at(heat, lane));
                break;
            case 1:
                same("heat(" + heat + ", " + rank + ")", gala.heat(heat, rank), plain.heat(heat, rank));
                break;
            case 2:
                same("reserve(" + rank + ")", gala.reserve(rank), plain.reserve(rank));
                break;
            case 3:
                same("points(" + rank + ")", gala.points(rank), plain.points(rank));
                break;
            case 4:
                same("ifDrawn(" + number + ", " + heat + ")", gala.ifDrawn(number, heat), plain.ifDrawn(number, heat));
                break;
            case 5:
                same("lane(" + lane + ", " + heat + ")", gala.lane(lane, heat), plain.lane(lane, heat));
                break;
            case 6:
                same("why()", gala.why(), plain.why());
                break;
            case 7:
                same("missing(" + rank + ")", gala.missing(rank), plain.missing(rank));
                break;
            case 8:
                same("leader(" + rank + ")", gala.leader(rank), plain.leader(rank));
                break;
            case 9:
                same("mean()", gala.mean(), plain.mean());
                break;
            case 10:
            case 11:
                int counted = pick(25) - 1;
                same("count(" + counted + ")", gala.count(counted), plain.count(counted));
                break;
            default:
                same("swimmer(" + number + ", " + what + ")", gala.swimmer(number, what), plain.swimmer(number, what));
                break;
        }
    }

    private void text() {
        if (pick(2) == 0) {
            same("clearText()", gala.clearText(), plain.clearText());
        }
        int orders = 1 + pick(5);
        for (int each = 0; each < orders; each++) {
            String order = order();
            for (int place = 0; place < order.length(); place++) {
                char sign = order.charAt(place);
                same("type('" + sign + "')", gala.type(sign), plain.type(sign));
            }
        }
        for (int what = 0; what < 3; what++) {
            same("fault(" + what + ")", gala.fault(what), plain.fault(what));
        }
        same("play()", gala.play(), plain.play());
        same("count(12)", gala.count(12), plain.count(12));
    }

    private void playPossibleOrders() {
        String orders = "";
        for (int attempt = 0; attempt < 100; attempt++) {
            String more = orders + orderOfAnyStage();
            if (more.length() <= 60 && isPossible(more)) {
                orders = more;
            }
        }
        plain.clearText();
        int before = plain.count(0);
        orders.chars().forEach(sign -> same("type(" + sign + ")", gala.type(sign), plain.type(sign)));
        same("fault(0)", gala.fault(0), plain.fault(0));
        same("play()", gala.play(), plain.play());
        playsOverStages += Math.floorMod(plain.count(0) - before, 4) > 1 ? 1 : 0;
    }

    private boolean isPossible(String orders) {
        plain.clearText();
        orders.chars().forEach(plain::type);
        return plain.fault(0) == PlainGala.NONE;
    }

    private String orderOfAnyStage() {
        int kind = pick(10);
        if (kind < 4) {
            return "dfon".charAt(kind) + ";";
        }
        int number = pick(Math.max(1, plain.count(1)));
        return kind == 4 ? "e" + pick(6) + "," + time() + ";" : kind == 5 ? "x" + number + ";" : "s" + number + "," + time() + ";";
    }

    /** Mostly an order that fits the stage; sometimes with a sign changed, or cut off. */
    private String order() {
        String[] stageOrders = {"d;", "f;", "o;", "n;"};
        int kind = pick(8);
        String order;
        if (kind < 2) {
            order = stageOrders[kind == 0 ? plain.count(0) : pick(4)];
        } else if (kind == 2) {
            order = "x" + number() + ";";
        } else if (plain.count(0) == 0) {
            order = "e" + pick(6) + "," + time() + ";";
        } else {
            order = "s" + Math.max(0, kind == 3 ? number() : plain.missing(0)) + "," + time() + ";";
        }
        if (pick(14) == 0) {
            int place = pick(order.length());
            order = order.substring(0, place) + "0;,ex9d ".charAt(pick(8)) + order.substring(place + pick(2));
        }
        return pick(20) == 0 ? order.substring(0, pick(order.length())) : order;
    }
}
