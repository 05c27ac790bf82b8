import java.util.ArrayDeque;
import java.util.ArrayList;
import java.util.Arrays;
import java.util.Collections;
import java.util.Comparator;
import java.util.Deque;
import java.util.List;
import java.util.Map;
import java.util.TreeMap;
import java.util.regex.Matcher;
import java.util.regex.Pattern;
import java.util.stream.Collectors;
import java.util.stream.IntStream;

/**
 * The document once more, with the whole Java library: sorted lists and maps of lanes, where the program counts ranks.
 * It is there to be held against the program, so it shares nothing with it.
 */
final class PlainGala {
    static final int INVALID = -1000001;
    static final int IMPOSSIBLE = -1000002;
    static final int LIMIT = -1000003;
    static final int NONE = -1000004;

    private static final class Person {
        int number;
        int club;
        int entry;
        boolean scratched;
        Integer heatTime;
        Integer finalTime;
        Integer place;
        int brought;

        Person copy() {
            Person other = new Person();
            other.number = number;
            other.club = club;
            other.entry = entry;
            other.scratched = scratched;
            other.heatTime = heatTime;
            other.finalTime = finalTime;
            other.place = place;
            other.brought = brought;
            return other;
        }
    }

    private static final class State {
        int[] settings = {8, 3, 2};
        int stage;
        List<Person> people = new ArrayList<>();
        List<Map<Integer, Integer>> heats = new ArrayList<>();
        Map<Integer, Integer> finalLanes = new TreeMap<>();
        List<Integer> reserves = new ArrayList<>();
        int called;
        int ended;
        Integer record;
        int recordHolder;

        State copy() {
            State other = new State();
            other.settings = settings.clone();
            other.stage = stage;
            people.forEach(person -> other.people.add(person.copy()));
            heats.forEach(heat -> other.heats.add(new TreeMap<>(heat)));
            other.finalLanes = new TreeMap<>(finalLanes);
            other.reserves = new ArrayList<>(reserves);
            other.called = called;
            other.ended = ended;
            other.record = record;
            other.recordHolder = recordHolder;
            return other;
        }
    }

    private State now = new State();
    private final Deque<State> history = new ArrayDeque<>();
    private String text = "";

    private static final Comparator<Person> BY_ENTRY =
        Comparator.<Person>comparingInt(person -> person.entry == 0 ? Integer.MAX_VALUE : person.entry)
            .thenComparingInt(person -> person.number);
    private static final Comparator<Person> BY_HEAT_TIME =
        Comparator.<Person>comparingInt(person -> person.heatTime).thenComparing(BY_ENTRY);

    private interface Change {
        int on(State state);
    }

    private int change(Change wanted) {
        State tried = now.copy();
        int answer = wanted.on(tried);
        if (answer >= 0) {
            history.addLast(now);
            if (history.size() == 5) {
                history.removeFirst();
            }
            now = tried;
        }
        return answer;
    }

    private static boolean exists(State state, int number) {
        return number >= 0 && number < state.people.size();
    }

    private static boolean timeOrZero(int time) {
        return time == 0 || time >= 100 && time <= 999;
    }

    private static List<Person> entrants(State state) {
        return state.people.stream().filter(person -> !person.scratched).sorted(BY_ENTRY).collect(Collectors.toList());
    }

    private static List<Person> heatRanking(State state) {
        return state.people.stream().filter(person -> person.heatTime != null && person.heatTime > 0)
            .sorted(BY_HEAT_TIME).collect(Collectors.toList());
    }

    private static int[] laneOrder(int lanes) {
        int[] order = new int[lanes];
        int middle = (lanes + 1) / 2;
        int above = middle;
        int below = middle;
        for (int rank = 0; rank < lanes; rank++) {
            order[rank] = rank == 0 ? middle : rank % 2 == 1 ? ++above : --below;
        }
        return order;
    }

    /** The ranks in each heat, in the order of the ranks. */
    private static List<List<Integer>> ranksOfHeats(int drawn, int lanes, int fewest) {
        int heats = 0;
        while (heats * lanes < drawn) {
            heats++;
        }
        List<List<Integer>> ranks = new ArrayList<>();
        for (int heat = 0; heat < heats; heat++) {
            ranks.add(new ArrayList<>());
        }
        int fast = heats >= 3 ? 3 : heats;
        int rank = 0;
        while (rank < drawn && rank < fast * lanes) {
            for (int back = 1; back <= fast && rank < drawn; back++) {
                ranks.get(heats - back).add(rank++);
            }
        }
        for (int heat = heats - 4; heat >= 0; heat--) {
            for (int lane = 0; lane < lanes && rank < drawn; lane++) {
                ranks.get(heat).add(rank++);
            }
        }
        if (heats >= 4) {
            while (ranks.get(0).size() < fewest) {
                ranks.get(0).add(ranks.get(1).remove(ranks.get(1).size() - 1));
            }
            Collections.sort(ranks.get(0));
        }
        return ranks;
    }

    private static List<Map<Integer, Integer>> drawnHeats(State state) {
        List<Person> entrants = entrants(state);
        int[] order = laneOrder(state.settings[0]);
        List<Map<Integer, Integer>> heats = new ArrayList<>();
        for (List<Integer> ranks : ranksOfHeats(entrants.size(), state.settings[0], state.settings[1])) {
            Map<Integer, Integer> lanes = new TreeMap<>();
            for (int place = 0; place < ranks.size(); place++) {
                lanes.put(order[place], entrants.get(ranks.get(place)).number);
            }
            heats.add(lanes);
        }
        return heats;
    }

    private static List<Integer> swimmersNow(State state) {
        List<Integer> found = new ArrayList<>();
        if (state.stage == 1) {
            state.heats.forEach(heat -> found.addAll(heat.values()));
        }
        if (state.stage == 2) {
            found.addAll(state.finalLanes.values());
        }
        Collections.sort(found);
        return found;
    }

    private static List<Integer> stageTimes(State state) {
        return state.people.stream().map(person -> state.stage == 1 ? person.heatTime : person.finalTime)
            .filter(time -> time != null && time > 0).collect(Collectors.toList());
    }

    private static List<Integer> unswum(State state) {
        return swimmersNow(state).stream()
            .filter(number -> (state.stage == 1 ? state.people.get(number).heatTime : state.people.get(number).finalTime) == null)
            .collect(Collectors.toList());
    }

    private static List<Integer> callable(State state) {
        return state.reserves.stream().filter(number -> !state.people.get(number).scratched).collect(Collectors.toList());
    }

    private static int reason(State state) {
        switch (state.stage) {
            case 0:
                return entrants(state).isEmpty() ? 1 : 0;
            case 1:
                return !unswum(state).isEmpty() ? 2 : stageTimes(state).isEmpty() ? 1 : 0;
            case 2:
                return unswum(state).isEmpty() ? 0 : 2;
            default:
                return 0;
        }
    }

    private static int setOf(Iterable<Integer> numbers) {
        int set = 0;
        for (int number : numbers) {
            set |= 1 << number;
        }
        return set;
    }

    private static int doEnter(State state, int club, int entry) {
        if (club < 0 || club > 5 || !timeOrZero(entry)) {
            return INVALID;
        }
        if (state.stage != 0) {
            return IMPOSSIBLE;
        }
        if (state.people.size() == 30) {
            return LIMIT;
        }
        Person person = new Person();
        person.number = state.people.size();
        person.club = club;
        person.entry = entry;
        state.people.add(person);
        return person.number;
    }

    private static int doScratch(State state, int number) {
        if (!exists(state, number)) {
            return INVALID;
        }
        Person person = state.people.get(number);
        if (person.scratched || state.stage == 3) {
            return IMPOSSIBLE;
        }
        person.scratched = true;
        if (state.stage == 1) {
            state.heats.forEach(heat -> heat.values().removeIf(other -> other == number));
            person.heatTime = null;
        }
        if (state.stage != 2 || !state.finalLanes.containsValue(number)) {
            return 100;
        }
        person.finalTime = null;
        int lane = state.finalLanes.entrySet().stream().filter(seat -> seat.getValue() == number).findFirst().get().getKey();
        state.finalLanes.remove(lane);
        if (callable(state).isEmpty()) {
            return 100;
        }
        Integer called = callable(state).get(0);
        state.finalLanes.put(lane, called);
        state.reserves.remove(called);
        state.called++;
        return called;
    }

    private static int doSet(State state, int what, int value) {
        int[][] ranges = {{4, 10}, {1, 3}, {0, 4}};
        if (what < 0 || what > 2 || value < ranges[what][0] || value > ranges[what][1]) {
            return INVALID;
        }
        if (state.stage != 0) {
            return IMPOSSIBLE;
        }
        int before = state.settings[what];
        state.settings[what] = value;
        return before;
    }

    private static int doDraw(State state) {
        if (state.stage != 0 || entrants(state).isEmpty()) {
            return IMPOSSIBLE;
        }
        state.heats = drawnHeats(state);
        state.stage = 1;
        return state.heats.size();
    }

    private static int doSwim(State state, int number, int time) {
        if (!exists(state, number) || !timeOrZero(time)) {
            return INVALID;
        }
        if (!swimmersNow(state).contains(number)) {
            return IMPOSSIBLE;
        }
        if (state.stage == 1) {
            state.people.get(number).heatTime = time;
        } else {
            state.people.get(number).finalTime = time;
        }
        if (time > 0 && (state.record == null || time < state.record)) {
            state.record = time;
            state.recordHolder = number;
        }
        return time == 0 ? 100 : (int) stageTimes(state).stream().filter(other -> other < time).count();
    }

    private static int doFinals(State state) {
        if (state.stage != 1 || reason(state) != 0) {
            return IMPOSSIBLE;
        }
        List<Person> ranking = heatRanking(state);
        int[] order = laneOrder(state.settings[0]);
        for (int rank = 0; rank < ranking.size(); rank++) {
            if (rank < order.length) {
                state.finalLanes.put(order[rank], ranking.get(rank).number);
            } else if (rank < order.length + state.settings[2]) {
                state.reserves.add(ranking.get(rank).number);
            }
        }
        state.stage = 2;
        return setOf(state.finalLanes.values());
    }

    private static int doEnd(State state) {
        if (state.stage != 2 || reason(state) != 0) {
            return IMPOSSIBLE;
        }
        TreeMap<Integer, List<Person>> byTime = new TreeMap<>();
        for (Person person : state.people) {
            if (person.finalTime != null && person.finalTime > 0) {
                byTime.computeIfAbsent(person.finalTime, time -> new ArrayList<>()).add(person);
            }
        }
        int place = 1;
        int winners = 0;
        for (List<Person> same : byTime.values()) {
            int points = 0;
            for (int each = place; each < place + same.size(); each++) {
                points += state.settings[0] - each + 1;
                points += each == 1 ? 1 : 0;
            }
            for (Person person : same) {
                person.place = place;
                person.brought += 2 * points / same.size();
                winners |= place == 1 ? 1 << person.number : 0;
            }
            place += same.size();
        }
        state.stage = 3;
        state.ended++;
        return winners;
    }

    private static int doNext(State state) {
        if (state.stage != 3) {
            return IMPOSSIBLE;
        }
        int better = 0;
        for (Person person : state.people) {
            List<Integer> times = new ArrayList<>(Arrays.asList(person.entry, person.heatTime, person.finalTime));
            times.removeIf(time -> time == null || time == 0);
            int best = times.isEmpty() ? 0 : Collections.min(times);
            better += best == person.entry ? 0 : 1;
            person.entry = best;
            person.scratched = false;
            person.heatTime = null;
            person.finalTime = null;
            person.place = null;
        }
        state.heats.clear();
        state.finalLanes.clear();
        state.reserves.clear();
        state.stage = 0;
        return better;
    }

    int enter(int club, int entry) {
        return change(state -> doEnter(state, club, entry));
    }

    int scratch(int number) {
        return change(state -> doScratch(state, number));
    }

    int set(int what, int value) {
        return change(state -> doSet(state, what, value));
    }

    int draw() {
        return change(PlainGala::doDraw);
    }

    int swim(int number, int time) {
        return change(state -> doSwim(state, number, time));
    }

    int finals() {
        return change(PlainGala::doFinals);
    }

    int end() {
        return change(PlainGala::doEnd);
    }

    int next() {
        return change(PlainGala::doNext);
    }

    private static int orNone(Integer value) {
        return value == null ? NONE : value;
    }

    private static Integer keyOf(Map<Integer, Integer> lanes, int number) {
        return lanes.entrySet().stream().filter(seat -> seat.getValue() == number).map(Map.Entry::getKey).findFirst().orElse(null);
    }

    private static Integer heatOf(State state, int number) {
        return IntStream.range(0, state.heats.size()).boxed()
            .filter(heat -> state.heats.get(heat).containsValue(number)).findFirst().orElse(null);
    }

    int swimmer(int number, int what) {
        if (!exists(now, number) || what < 0 || what > 11) {
            return INVALID;
        }
        Person person = now.people.get(number);
        Integer heat = heatOf(now, number);
        switch (what) {
            case 0:
                return person.club;
            case 1:
                return person.entry;
            case 2:
                return person.scratched ? NONE : entrants(now).indexOf(person);
            case 3:
                return orNone(heat);
            case 4:
                return heat == null ? NONE : keyOf(now.heats.get(heat), number);
            case 5:
                return orNone(person.heatTime);
            case 6:
                return heatRanking(now).contains(person) ? heatRanking(now).indexOf(person) : NONE;
            case 7:
                return orNone(keyOf(now.finalLanes, number));
            case 8:
                return orNone(person.finalTime);
            case 9:
                return orNone(person.place);
            case 10:
                return person.scratched ? 1 : 0;
            default:
                return person.brought;
        }
    }

    private Map<Integer, Integer> lanesOf(int heat) {
        if (heat == -1) {
            return now.stage >= 2 ? now.finalLanes : null;
        }
        return heat >= 0 && heat < now.heats.size() ? now.heats.get(heat) : null;
    }

    int at(int heat, int lane) {
        if (lanesOf(heat) == null || lane < 1 || lane > now.settings[0]) {
            return INVALID;
        }
        return orNone(lanesOf(heat).get(lane));
    }

    int heat(int heat, int what) {
        if (lanesOf(heat) == null || what < 0 || what > 4) {
            return INVALID;
        }
        List<Person> people = lanesOf(heat).values().stream().map(now.people::get).collect(Collectors.toList());
        List<Integer> swum = people.stream().map(person -> heat == -1 ? person.finalTime : person.heatTime)
            .filter(time -> time != null).collect(Collectors.toList());
        List<Integer> entries = people.stream().map(person -> person.entry).filter(entry -> entry > 0).collect(Collectors.toList());
        switch (what) {
            case 0:
                return people.size();
            case 1:
                return swum.size();
            case 2:
                return entries.stream().min(Integer::compare).orElse(NONE);
            case 3:
                return entries.stream().max(Integer::compare).orElse(NONE);
            default:
                return swum.stream().filter(time -> time > 0).min(Integer::compare).orElse(NONE);
        }
    }

    private static int pick(List<Integer> list, int rank) {
        return rank < 0 ? INVALID : rank < list.size() ? list.get(rank) : NONE;
    }

    int reserve(int rank) {
        return pick(callable(now), rank);
    }

    int points(int club) {
        return club < 0 || club > 5 ? INVALID
            : now.people.stream().filter(person -> person.club == club).mapToInt(person -> person.brought).sum();
    }

    int ifDrawn(int number, int what) {
        if (!exists(now, number) || what < 0 || what > 2) {
            return INVALID;
        }
        if (now.stage != 0 || now.people.get(number).scratched) {
            return IMPOSSIBLE;
        }
        State drawn = now.copy();
        drawn.heats = drawnHeats(drawn);
        int heat = heatOf(drawn, number);
        return what == 0 ? heat : what == 1 ? keyOf(drawn.heats.get(heat), number) : drawn.heats.size();
    }

    int lane(int rank, int what) {
        if (rank < 0 || rank >= now.settings[0] || what < 0 || what > 1) {
            return INVALID;
        }
        int[] order = laneOrder(now.settings[0]);
        return what == 0 ? order[rank] : IntStream.range(0, order.length).filter(each -> order[each] == rank + 1).findFirst().getAsInt();
    }

    int why() {
        return reason(now);
    }

    int missing(int rank) {
        return pick(unswum(now), rank);
    }

    int leader(int rank) {
        List<Integer> clubs = IntStream.range(0, 6).boxed()
            .sorted(Comparator.<Integer>comparingInt(club -> -points(club)).thenComparing(club -> club)).collect(Collectors.toList());
        return rank < 0 || rank > 5 ? INVALID : clubs.get(rank);
    }

    int mean() {
        List<Integer> times = now.stage == 0 ? List.of() : stageTimes(now);
        float together = times.stream().mapToInt(time -> time).sum();
        float many = times.size();
        return times.isEmpty() ? NONE : Float.floatToIntBits(together / many);
    }

    int count(int what) {
        switch (what) {
            case 0:
                return now.stage;
            case 1:
                return now.people.size();
            case 2:
                return setOf(now.people.stream().filter(person -> person.scratched).map(person -> person.number).collect(Collectors.toList()));
            case 3:
                return now.heats.size();
            case 4:
                return setOf(now.finalLanes.values());
            case 5:
                return callable(now).size();
            case 6:
                return (int) now.people.stream().flatMap(person -> Arrays.asList(person.heatTime, person.finalTime).stream())
                    .filter(time -> time != null).count();
            case 7:
                return now.ended;
            case 8:
                return orNone(now.record);
            case 9:
                return now.record == null ? NONE : now.recordHolder;
            case 10:
                return now.called;
            case 11:
                return now.people.stream().mapToInt(person -> person.brought).sum();
            case 12:
                return history.size();
            case 13:
                return text.length();
            case 20:
            case 21:
            case 22:
                return now.settings[what - 20];
            default:
                return INVALID;
        }
    }

    int undo() {
        if (history.isEmpty()) {
            return IMPOSSIBLE;
        }
        now = history.removeLast();
        return history.size();
    }

    int type(int character) {
        if (character < 32 || character > 126) {
            return INVALID;
        }
        if (text.length() == 60) {
            return LIMIT;
        }
        text += (char) character;
        return text.length();
    }

    int clearText() {
        int length = text.length();
        text = "";
        return length;
    }

    private static final Pattern ORDER = Pattern.compile("([es])(\\d{1,3}),(\\d{1,3});|(x)(\\d{1,3});|([dfon]);");

    private static int obey(State state, Matcher order) {
        if (order.group(1) != null) {
            int first = Integer.parseInt(order.group(2));
            int second = Integer.parseInt(order.group(3));
            return order.group(1).equals("e") ? doEnter(state, first, second) : doSwim(state, first, second);
        }
        if (order.group(4) != null) {
            return doScratch(state, Integer.parseInt(order.group(5)));
        }
        switch (order.group(6)) {
            case "d":
                return doDraw(state);
            case "f":
                return doFinals(state);
            case "o":
                return doEnd(state);
            default:
                return doNext(state);
        }
    }

    /** The longest beginning of a text that some order begins with: the text and what is put behind it are tried. */
    private static int breakOf(String rest) {
        List<String> endings = List.of("", ";", "0;", ",0;", "0,0;", "d;", "x0;");
        for (int length = rest.length(); length > 0; length--) {
            String head = rest.substring(0, length);
            if (endings.stream().anyMatch(ending -> ORDER.matcher(head + ending).matches())) {
                return length;
            }
        }
        return 0;
    }

    /** Position, reason and cause, or the number of orders alone; the orders are done on the state. */
    private int[] rehearse(State state) {
        int position = 0;
        int orders = 0;
        while (position < text.length()) {
            Matcher order = ORDER.matcher(text).region(position, text.length());
            if (!order.lookingAt()) {
                return new int[] {position, 1, breakOf(text.substring(position))};
            }
            int answer = obey(state, order);
            if (answer < 0) {
                return new int[] {position, 2, answer};
            }
            position = order.end();
            orders++;
        }
        return new int[] {orders};
    }

    int fault(int what) {
        if (what < 0 || what > 2) {
            return INVALID;
        }
        int[] told = rehearse(now.copy());
        return told.length == 1 ? NONE : told[what];
    }

    int play() {
        return change(state -> {
            int[] told = rehearse(state);
            return told.length == 1 ? told[0] : IMPOSSIBLE;
        });
    }
}
