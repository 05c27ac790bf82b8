/**
 * Heats and finals of a swimming gala, as ../shared/DOC.md promises them.
 *
 * The rows of every state are made once, in the constructor, and copied into each other: no call makes an object.
 */
public final class GalaHeats {
    public static final int INVALID_ARGUMENT = -1000001;
    public static final int NOT_POSSIBLE = -1000002;
    public static final int LIMIT_REACHED = -1000003;
    public static final int NOT_FOUND = -1000004;

    private static final int ENTRIES = 0;
    private static final int HEATS = 1;
    private static final int FINAL = 2;
    private static final int OVER = 3;

    private static final int LANES = 0;
    private static final int FEWEST = 1;
    private static final int RESERVES = 2;

    private static final int MOST_SWIMMERS = 30;
    private static final int MOST_RESERVES = 4;
    private static final int CLUBS = 6;
    private static final int SETTINGS = 3;
    private static final int LEAST_TIME = 100;
    private static final int GREATEST_TIME = 999;
    private static final int TEXT_LIMIT = 60;
    private static final int HISTORY_LIMIT = 4;

    private static final int NO_HEAT = -1;
    private static final int NOT_SWUM = -1;
    private static final int NOBODY_CALLED = 100;
    private static final int RETURN_WITHOUT_TIME = 100;
    private static final int THE_FINAL = -1;

    private static final int CAN_GO_ON = 0;
    private static final int NOBODY_TO_DRAW = 1;
    private static final int SOMEBODY_MISSING = 2;

    private static final int NO_FAULT = 0;
    private static final int WRONG_FORM = 1;
    private static final int REFUSED = 2;

    private final Meet meet;
    private final Meet trial;
    private final History history;
    private final OrderText text;
    private final Rehearsal rehearsal;

    public GalaHeats() {
        meet = new Meet();
        trial = new Meet();
        history = new History();
        text = new OrderText();
        rehearsal = new Rehearsal();
    }

    // ---- entries

    public int enter(int club, int entry) {
        history.prepare(meet);
        return history.keepUnlessError(Changes.addSwimmer(meet, club, entry));
    }

    public int scratch(int swimmer) {
        history.prepare(meet);
        return history.keepUnlessError(Changes.withdraw(meet, swimmer));
    }

    public int set(int what, int value) {
        history.prepare(meet);
        return history.keepUnlessError(Changes.changeSetting(meet, what, value));
    }

    // ---- stages

    public int draw() {
        history.prepare(meet);
        return history.keepUnlessError(Changes.drawHeats(meet));
    }

    public int swim(int swimmer, int time) {
        history.prepare(meet);
        return history.keepUnlessError(Changes.giveTime(meet, swimmer, time));
    }

    public int finals() {
        history.prepare(meet);
        return history.keepUnlessError(Changes.drawFinal(meet));
    }

    public int end() {
        history.prepare(meet);
        return history.keepUnlessError(Changes.endEvent(meet));
    }

    public int next() {
        history.prepare(meet);
        return history.keepUnlessError(Changes.beginNextEvent(meet));
    }

    // ---- what there is

    public int swimmer(int swimmer, int what) {
        if (!meet.has(swimmer) || what < 0 || what > 11) {
            return INVALID_ARGUMENT;
        }
        return Answers.ofSwimmer(meet, meet.all[swimmer], what);
    }

    public int at(int heat, int lane) {
        if (!meet.hasHeat(heat) || lane < 1 || lane > meet.lanes()) {
            return INVALID_ARGUMENT;
        }
        return Answers.inLane(meet, heat, lane);
    }

    public int heat(int heat, int what) {
        if (!meet.hasHeat(heat) || what < 0 || what > 4) {
            return INVALID_ARGUMENT;
        }
        return Answers.ofHeat(meet, heat, what);
    }

    public int reserve(int rank) {
        return rank < 0 ? INVALID_ARGUMENT : meet.freeReserve(rank);
    }

    public int points(int club) {
        return club < 0 || club >= CLUBS ? INVALID_ARGUMENT : Scores.ofClub(meet, club);
    }

    // ---- what would be

    public int ifDrawn(int swimmer, int what) {
        if (!meet.has(swimmer) || what < 0 || what > 2) {
            return INVALID_ARGUMENT;
        }
        if (meet.stage != ENTRIES || meet.all[swimmer].scratched) {
            return NOT_POSSIBLE;
        }
        trial.copyFrom(meet);
        int heats = Changes.drawHeats(trial);
        if (what == 2) {
            return heats;
        }
        return what == 0 ? trial.all[swimmer].heat : trial.all[swimmer].heatLane;
    }

    public int lane(int rank, int what) {
        if (rank < 0 || rank >= meet.lanes() || what < 0 || what > 1) {
            return INVALID_ARGUMENT;
        }
        return what == 0 ? Lanes.ofRank(rank, meet.lanes()) : Lanes.rankOf(rank + 1, meet.lanes());
    }

    public int why() {
        return meet.reasonToWait();
    }

    public int missing(int rank) {
        return rank < 0 ? INVALID_ARGUMENT : meet.stillToSwim(rank);
    }

    public int leader(int rank) {
        return rank < 0 || rank >= CLUBS ? INVALID_ARGUMENT : Scores.clubAtRank(meet, rank);
    }

    public int mean() {
        return Answers.meanBits(meet);
    }

    public int count(int what) {
        if (what == 12) {
            return history.kept;
        }
        if (what == 13) {
            return text.length;
        }
        if (what >= 20 && what < 20 + SETTINGS) {
            return meet.settings[what - 20];
        }
        return Answers.ofMeet(meet, what);
    }

    public int undo() {
        return history.restoreInto(meet);
    }

    // ---- texts

    public int type(int character) {
        if (character < 32 || character > 126) {
            return INVALID_ARGUMENT;
        }
        return text.append(character);
    }

    public int clearText() {
        return text.empty();
    }

    public int fault(int what) {
        if (what < 0 || what > 2) {
            return INVALID_ARGUMENT;
        }
        rehearsal.tryOrders(text, meet, trial);
        if (rehearsal.reason == NO_FAULT) {
            return NOT_FOUND;
        }
        if (what == 0) {
            return rehearsal.position;
        }
        return what == 1 ? rehearsal.reason : rehearsal.cause;
    }

    public int play() {
        rehearsal.tryOrders(text, meet, trial);
        if (rehearsal.reason != NO_FAULT) {
            return NOT_POSSIBLE;
        }
        history.prepare(meet);
        meet.copyFrom(trial);
        return history.keepUnlessError(rehearsal.orders);
    }

    /** The order of lanes, from the middle outward. */
    private static final class Lanes {
        static int ofRank(int rank, int lanes) {
            int middle = (lanes + 1) / 2;
            return rank % 2 == 1 ? middle + (rank + 1) / 2 : middle - rank / 2;
        }

        static int rankOf(int lane, int lanes) {
            int middle = (lanes + 1) / 2;
            return lane > middle ? 2 * (lane - middle) - 1 : 2 * (middle - lane);
        }
    }

    private static final class Swimmer {
        final int number;
        int club;
        int entry;
        boolean scratched;
        int heat;
        int heatLane;
        int heatTime;
        int finalLane;
        int finalTime;
        int place;
        int brought;

        Swimmer(int itsNumber) {
            number = itsNumber;
        }

        void join(int itsClub, int itsEntry) {
            club = itsClub;
            entry = itsEntry;
            brought = 0;
            forgetEvent();
        }

        void forgetEvent() {
            scratched = false;
            place = 0;
            leaveHeat();
            leaveFinal();
        }

        void leaveHeat() {
            heat = NO_HEAT;
            heatLane = 0;
            heatTime = NOT_SWUM;
        }

        void leaveFinal() {
            finalLane = 0;
            finalTime = NOT_SWUM;
        }

        boolean isIn(int itsHeat) {
            return itsHeat == THE_FINAL ? finalLane != 0 : heat == itsHeat;
        }

        int laneOf(int itsHeat) {
            return itsHeat == THE_FINAL ? finalLane : heatLane;
        }

        int timeOf(int itsHeat) {
            return itsHeat == THE_FINAL ? finalTime : heatTime;
        }

        boolean aheadByEntry(Swimmer other) {
            if (entry != other.entry) {
                return other.entry == 0 || (entry != 0 && entry < other.entry);
            }
            return number < other.number;
        }

        boolean aheadByHeatTime(Swimmer other) {
            return heatTime != other.heatTime ? heatTime < other.heatTime : aheadByEntry(other);
        }

        int bestTime() {
            int best = entry;
            if (heatTime > 0 && (best == 0 || heatTime < best)) {
                best = heatTime;
            }
            if (finalTime > 0 && (best == 0 || finalTime < best)) {
                best = finalTime;
            }
            return best;
        }

        void copyFrom(Swimmer other) {
            club = other.club;
            entry = other.entry;
            scratched = other.scratched;
            heat = other.heat;
            heatLane = other.heatLane;
            heatTime = other.heatTime;
            finalLane = other.finalLane;
            finalTime = other.finalTime;
            place = other.place;
            brought = other.brought;
        }
    }

    /** Everything that the history keeps: all but the text. */
    private static final class Meet {
        final int[] settings = new int[SETTINGS];
        final Swimmer[] all = new Swimmer[MOST_SWIMMERS];
        final int[] reserves = new int[MOST_RESERVES];
        int size;
        int stage;
        int heats;
        int reservesDrawn;
        int reservesCalled;
        int eventsEnded;
        int record;
        int recordSwimmer;

        Meet() {
            for (int what = 0; what < SETTINGS; what++) {
                settings[what] = Settings.FIRST[what];
            }
            for (int number = 0; number < MOST_SWIMMERS; number++) {
                all[number] = new Swimmer(number);
            }
        }

        /** Rows behind the size are left as they are: a swimmer who joins writes the whole row anew. */
        void copyFrom(Meet other) {
            size = other.size;
            stage = other.stage;
            heats = other.heats;
            reservesDrawn = other.reservesDrawn;
            reservesCalled = other.reservesCalled;
            eventsEnded = other.eventsEnded;
            record = other.record;
            recordSwimmer = other.recordSwimmer;
            for (int what = 0; what < SETTINGS; what++) {
                settings[what] = other.settings[what];
            }
            for (int place = 0; place < MOST_RESERVES; place++) {
                reserves[place] = other.reserves[place];
            }
            for (int number = 0; number < size; number++) {
                all[number].copyFrom(other.all[number]);
            }
        }

        int lanes() {
            return settings[LANES];
        }

        boolean has(int number) {
            return number >= 0 && number < size;
        }

        boolean hasHeat(int heat) {
            return heat == THE_FINAL ? stage >= FINAL : heat >= 0 && heat < heats;
        }

        int notScratched() {
            int found = 0;
            for (int number = 0; number < size; number++) {
                if (!all[number].scratched) {
                    found++;
                }
            }
            return found;
        }

        int rankByEntry(Swimmer swimmer) {
            int rank = 0;
            for (int number = 0; number < size; number++) {
                if (!all[number].scratched && all[number].aheadByEntry(swimmer)) {
                    rank++;
                }
            }
            return rank;
        }

        int rankByHeatTime(Swimmer swimmer) {
            int rank = 0;
            for (int number = 0; number < size; number++) {
                if (all[number].heatTime > 0 && all[number].aheadByHeatTime(swimmer)) {
                    rank++;
                }
            }
            return rank;
        }

        boolean swimsNow(Swimmer swimmer) {
            if (stage == HEATS) {
                return swimmer.heat != NO_HEAT;
            }
            return stage == FINAL && swimmer.finalLane != 0;
        }

        int stageTime(Swimmer swimmer) {
            return stage == HEATS ? swimmer.heatTime : swimmer.finalTime;
        }

        int fasterThan(int time) {
            int faster = 0;
            for (int number = 0; number < size; number++) {
                int other = stageTime(all[number]);
                if (other > 0 && other < time) {
                    faster++;
                }
            }
            return faster;
        }

        int timesAboveZero() {
            return fasterThan(GREATEST_TIME + 1);
        }

        int stillToSwim(int rank) {
            int ahead = 0;
            for (int number = 0; number < size; number++) {
                if (swimsNow(all[number]) && stageTime(all[number]) == NOT_SWUM) {
                    if (ahead == rank) {
                        return number;
                    }
                    ahead++;
                }
            }
            return NOT_FOUND;
        }

        int reasonToWait() {
            if (stage == ENTRIES) {
                return notScratched() == 0 ? NOBODY_TO_DRAW : CAN_GO_ON;
            }
            if (stillToSwim(0) != NOT_FOUND) {
                return SOMEBODY_MISSING;
            }
            return stage == HEATS && timesAboveZero() == 0 ? NOBODY_TO_DRAW : CAN_GO_ON;
        }

        /** One who was called is in the final, or has scratched since: neither can be called again. */
        boolean canBeCalled(int number) {
            return has(number) && !all[number].scratched && all[number].finalLane == 0;
        }

        int freeReserve(int rank) {
            int ahead = 0;
            for (int place = 0; place < reservesDrawn && place < MOST_RESERVES; place++) {
                if (canBeCalled(reserves[place])) {
                    if (ahead == rank) {
                        return reserves[place];
                    }
                    ahead++;
                }
            }
            return NOT_FOUND;
        }

        int finalSet() {
            int set = 0;
            for (int number = 0; number < size; number++) {
                if (all[number].finalLane != 0) {
                    set |= 1 << number;
                }
            }
            return set;
        }
    }

    private static final class Settings {
        private static final int[] FIRST = {8, 3, 2};
        private static final int[] LEAST = {4, 1, 0};
        private static final int[] GREATEST = {10, 3, 4};

        static boolean allow(int what, int value) {
            return what >= 0 && what < SETTINGS && value >= LEAST[what] && value <= GREATEST[what];
        }
    }

    /** The changes of a meet: each returns an error ahead of its first write, so that it then has changed nothing. */
    private static final class Changes {
        static int addSwimmer(Meet meet, int club, int entry) {
            if (club < 0 || club >= CLUBS || !isTimeOrZero(entry)) {
                return INVALID_ARGUMENT;
            }
            if (meet.stage != ENTRIES) {
                return NOT_POSSIBLE;
            }
            if (meet.size >= MOST_SWIMMERS) {
                return LIMIT_REACHED;
            }
            meet.all[meet.size].join(club, entry);
            return meet.size++;
        }

        static boolean isTimeOrZero(int time) {
            return time == 0 || (time >= LEAST_TIME && time <= GREATEST_TIME);
        }

        static int withdraw(Meet meet, int number) {
            if (!meet.has(number)) {
                return INVALID_ARGUMENT;
            }
            Swimmer swimmer = meet.all[number];
            if (swimmer.scratched || meet.stage == OVER) {
                return NOT_POSSIBLE;
            }
            swimmer.scratched = true;
            if (meet.stage == HEATS) {
                swimmer.leaveHeat();
            }
            if (meet.stage == FINAL && swimmer.finalLane != 0) {
                return callReserve(meet, swimmer);
            }
            return NOBODY_CALLED;
        }

        static int callReserve(Meet meet, Swimmer leaving) {
            int lane = leaving.finalLane;
            leaving.leaveFinal();
            int called = meet.freeReserve(0);
            if (!meet.has(called)) {
                return NOBODY_CALLED;
            }
            meet.all[called].finalLane = lane;
            meet.reservesCalled++;
            return called;
        }

        static int changeSetting(Meet meet, int what, int value) {
            if (!Settings.allow(what, value)) {
                return INVALID_ARGUMENT;
            }
            if (meet.stage != ENTRIES) {
                return NOT_POSSIBLE;
            }
            int before = meet.settings[what];
            meet.settings[what] = value;
            return before;
        }

        static int drawHeats(Meet meet) {
            int drawn = meet.notScratched();
            if (meet.stage != ENTRIES || drawn == 0) {
                return NOT_POSSIBLE;
            }
            meet.heats = HeatDraw.heatsFor(drawn, meet.lanes());
            HeatDraw.spread(meet);
            HeatDraw.fillFirstHeat(meet);
            HeatDraw.giveLanes(meet);
            meet.stage = HEATS;
            return meet.heats;
        }

        static int giveTime(Meet meet, int number, int time) {
            if (!meet.has(number) || !isTimeOrZero(time)) {
                return INVALID_ARGUMENT;
            }
            Swimmer swimmer = meet.all[number];
            if (swimmer.scratched || !meet.swimsNow(swimmer)) {
                return NOT_POSSIBLE;
            }
            if (meet.stage == HEATS) {
                swimmer.heatTime = time;
            } else {
                swimmer.finalTime = time;
            }
            if (time == 0) {
                return RETURN_WITHOUT_TIME;
            }
            noteRecord(meet, number, time);
            return meet.fasterThan(time);
        }

        /** The record is kept apart: it outlives the time itself, which may be swum anew or be scratched. */
        static void noteRecord(Meet meet, int number, int time) {
            if (meet.record == 0 || time < meet.record) {
                meet.record = time;
                meet.recordSwimmer = number;
            }
        }

        static int drawFinal(Meet meet) {
            if (meet.stage != HEATS || meet.reasonToWait() != CAN_GO_ON) {
                return NOT_POSSIBLE;
            }
            for (int number = 0; number < meet.size; number++) {
                if (meet.all[number].heatTime > 0) {
                    seatByTime(meet, meet.all[number]);
                }
            }
            meet.stage = FINAL;
            return meet.finalSet();
        }

        static void seatByTime(Meet meet, Swimmer swimmer) {
            int rank = meet.rankByHeatTime(swimmer);
            if (rank < meet.lanes()) {
                swimmer.finalLane = Lanes.ofRank(rank, meet.lanes());
                return;
            }
            int place = rank - meet.lanes();
            if (place < meet.settings[RESERVES] && place < MOST_RESERVES) {
                meet.reserves[place] = swimmer.number;
                meet.reservesDrawn++;
            }
        }

        static int endEvent(Meet meet) {
            if (meet.stage != FINAL || meet.reasonToWait() != CAN_GO_ON) {
                return NOT_POSSIBLE;
            }
            int winners = 0;
            for (int number = 0; number < meet.size; number++) {
                Scores.place(meet, meet.all[number]);
                if (meet.all[number].place == 1) {
                    winners |= 1 << number;
                }
            }
            meet.stage = OVER;
            meet.eventsEnded++;
            return winners;
        }

        static int beginNextEvent(Meet meet) {
            if (meet.stage != OVER) {
                return NOT_POSSIBLE;
            }
            int better = 0;
            for (int number = 0; number < meet.size; number++) {
                Swimmer swimmer = meet.all[number];
                int best = swimmer.bestTime();
                if (best != swimmer.entry) {
                    swimmer.entry = best;
                    better++;
                }
                swimmer.forgetEvent();
            }
            meet.heats = 0;
            meet.reservesDrawn = 0;
            meet.stage = ENTRIES;
            return better;
        }
    }

    private static final class HeatDraw {
        static int heatsFor(int drawn, int lanes) {
            return lanes < 1 ? 0 : (drawn + lanes - 1) / lanes;
        }

        static void spread(Meet meet) {
            for (int number = 0; number < meet.size; number++) {
                Swimmer swimmer = meet.all[number];
                if (!swimmer.scratched) {
                    swimmer.heat = heatOfRank(meet.rankByEntry(swimmer), meet.heats, meet.lanes());
                }
            }
        }

        static int heatOfRank(int rank, int heats, int lanes) {
            if (heats < 3) {
                return heats == 2 && rank % 2 == 0 ? 1 : 0;
            }
            if (rank < 3 * lanes) {
                return heats - 1 - rank % 3;
            }
            return lanes < 1 ? 0 : heats - 1 - rank / lanes;
        }

        static void fillFirstHeat(Meet meet) {
            if (meet.heats < 4) {
                return;
            }
            int missing = meet.settings[FEWEST] - sizeOf(meet, 0);
            for (int moved = 0; moved < missing; moved++) {
                int last = lastOf(meet, 1);
                if (meet.has(last)) {
                    meet.all[last].heat = 0;
                }
            }
        }

        static int sizeOf(Meet meet, int heat) {
            int found = 0;
            for (int number = 0; number < meet.size; number++) {
                if (meet.all[number].heat == heat) {
                    found++;
                }
            }
            return found;
        }

        static int lastOf(Meet meet, int heat) {
            int last = NOT_FOUND;
            for (int number = 0; number < meet.size; number++) {
                if (meet.all[number].heat == heat
                        && (!meet.has(last) || meet.all[last].aheadByEntry(meet.all[number]))) {
                    last = number;
                }
            }
            return last;
        }

        static void giveLanes(Meet meet) {
            for (int number = 0; number < meet.size; number++) {
                Swimmer swimmer = meet.all[number];
                if (!swimmer.scratched) {
                    swimmer.heatLane = Lanes.ofRank(rankInHeat(meet, swimmer), meet.lanes());
                }
            }
        }

        static int rankInHeat(Meet meet, Swimmer swimmer) {
            int rank = 0;
            for (int number = 0; number < meet.size; number++) {
                if (meet.all[number].heat == swimmer.heat && meet.all[number].aheadByEntry(swimmer)) {
                    rank++;
                }
            }
            return rank;
        }
    }

    /** Clubs have no row of their own: their points are what their swimmers brought. */
    private static final class Scores {
        static void place(Meet meet, Swimmer swimmer) {
            if (swimmer.finalTime <= 0) {
                return;
            }
            swimmer.place = meet.fasterThan(swimmer.finalTime) + 1;
            int same = meet.fasterThan(swimmer.finalTime + 1) - meet.fasterThan(swimmer.finalTime);
            swimmer.brought += shared(swimmer.place, same, meet.lanes());
        }

        static int shared(int place, int same, int lanes) {
            int together = 0;
            for (int each = place; each < place + same; each++) {
                together += lanes - each + 1 + (each == 1 ? 1 : 0);
            }
            return same < 1 ? 0 : 2 * together / same;
        }

        static int ofClub(Meet meet, int club) {
            int sum = 0;
            for (int number = 0; number < meet.size; number++) {
                if (meet.all[number].club == club) {
                    sum += meet.all[number].brought;
                }
            }
            return sum;
        }

        static int ofAllClubs(Meet meet) {
            int sum = 0;
            for (int number = 0; number < meet.size; number++) {
                sum += meet.all[number].brought;
            }
            return sum;
        }

        static int clubAtRank(Meet meet, int rank) {
            for (int club = 0; club < CLUBS; club++) {
                if (clubsAhead(meet, club) == rank) {
                    return club;
                }
            }
            return NOT_FOUND;
        }

        static int clubsAhead(Meet meet, int club) {
            int own = ofClub(meet, club);
            int ahead = 0;
            for (int other = 0; other < CLUBS; other++) {
                int theirs = ofClub(meet, other);
                if (theirs > own || (theirs == own && other < club)) {
                    ahead++;
                }
            }
            return ahead;
        }
    }

    private static final class Answers {
        static int ofSwimmer(Meet meet, Swimmer swimmer, int what) {
            switch (what) {
                case 0:
                    return swimmer.club;
                case 1:
                    return swimmer.entry;
                case 2:
                    return swimmer.scratched ? NOT_FOUND : meet.rankByEntry(swimmer);
                case 3:
                    return swimmer.heat == NO_HEAT ? NOT_FOUND : swimmer.heat;
                case 4:
                    return aboveZero(swimmer.heatLane);
                case 5:
                    return swimmer.heatTime == NOT_SWUM ? NOT_FOUND : swimmer.heatTime;
                case 6:
                    return swimmer.heatTime > 0 ? meet.rankByHeatTime(swimmer) : NOT_FOUND;
                case 7:
                    return aboveZero(swimmer.finalLane);
                case 8:
                    return swimmer.finalTime == NOT_SWUM ? NOT_FOUND : swimmer.finalTime;
                case 9:
                    return aboveZero(swimmer.place);
                case 10:
                    return swimmer.scratched ? 1 : 0;
                default:
                    return swimmer.brought;
            }
        }

        static int aboveZero(int value) {
            return value > 0 ? value : NOT_FOUND;
        }

        static int inLane(Meet meet, int heat, int lane) {
            for (int number = 0; number < meet.size; number++) {
                Swimmer swimmer = meet.all[number];
                if (swimmer.isIn(heat) && swimmer.laneOf(heat) == lane) {
                    return number;
                }
            }
            return NOT_FOUND;
        }

        static int ofHeat(Meet meet, int heat, int what) {
            switch (what) {
                case 0:
                    return countIn(meet, heat, false);
                case 1:
                    return countIn(meet, heat, true);
                case 2:
                    return leastIn(meet, heat, false);
                case 3:
                    return greatestEntryIn(meet, heat);
                default:
                    return leastIn(meet, heat, true);
            }
        }

        static int countIn(Meet meet, int heat, boolean whoSwam) {
            int found = 0;
            for (int number = 0; number < meet.size; number++) {
                Swimmer swimmer = meet.all[number];
                if (swimmer.isIn(heat) && (!whoSwam || swimmer.timeOf(heat) != NOT_SWUM)) {
                    found++;
                }
            }
            return found;
        }

        static int leastIn(Meet meet, int heat, boolean swum) {
            int least = 0;
            for (int number = 0; number < meet.size; number++) {
                Swimmer swimmer = meet.all[number];
                int time = swum ? swimmer.timeOf(heat) : swimmer.entry;
                if (swimmer.isIn(heat) && time > 0 && (least == 0 || time < least)) {
                    least = time;
                }
            }
            return aboveZero(least);
        }

        static int greatestEntryIn(Meet meet, int heat) {
            int greatest = 0;
            for (int number = 0; number < meet.size; number++) {
                if (meet.all[number].isIn(heat) && meet.all[number].entry > greatest) {
                    greatest = meet.all[number].entry;
                }
            }
            return aboveZero(greatest);
        }

        static int meanBits(Meet meet) {
            int times = meet.timesAboveZero();
            if (times == 0) {
                return NOT_FOUND;
            }
            int together = 0;
            for (int number = 0; number < meet.size; number++) {
                int time = meet.stageTime(meet.all[number]);
                if (time > 0) {
                    together += time;
                }
            }
            return bitsOf((float) together / (float) times);
        }

        /** The language's library has no floatToIntBits; each step here is exact from 1 on, which a mean always is. */
        static int bitsOf(float value) {
            float rest = value;
            int exponent = 0;
            while (rest >= 2.0f && exponent < 30) {
                rest = rest / 2.0f;
                exponent++;
            }
            return ((exponent + 127) << 23) | (int) ((rest - 1.0f) * 8388608.0f);
        }

        static int ofMeet(Meet meet, int what) {
            switch (what) {
                case 0:
                    return meet.stage;
                case 1:
                    return meet.size;
                case 2:
                    return scratchedSet(meet);
                case 3:
                    return meet.heats;
                case 4:
                    return meet.finalSet();
                case 5:
                    return freeReserves(meet);
                case 6:
                    return timesOfEvent(meet);
                case 7:
                    return meet.eventsEnded;
                case 8:
                    return aboveZero(meet.record);
                case 9:
                    return meet.record > 0 ? meet.recordSwimmer : NOT_FOUND;
                case 10:
                    return meet.reservesCalled;
                case 11:
                    return Scores.ofAllClubs(meet);
                default:
                    return INVALID_ARGUMENT;
            }
        }

        static int scratchedSet(Meet meet) {
            int set = 0;
            for (int number = 0; number < meet.size; number++) {
                if (meet.all[number].scratched) {
                    set |= 1 << number;
                }
            }
            return set;
        }

        static int freeReserves(Meet meet) {
            int free = 0;
            while (free < MOST_RESERVES && meet.freeReserve(free) != NOT_FOUND) {
                free++;
            }
            return free;
        }

        static int timesOfEvent(Meet meet) {
            int times = 0;
            for (int number = 0; number < meet.size; number++) {
                if (meet.all[number].heatTime != NOT_SWUM) {
                    times++;
                }
                if (meet.all[number].finalTime != NOT_SWUM) {
                    times++;
                }
            }
            return times;
        }
    }

    /** One row more than are kept: the state ahead of a call is written before the call is known to be a change. */
    private static final class History {
        final Meet[] rows = new Meet[HISTORY_LIMIT + 1];
        int kept;

        History() {
            for (int row = 0; row <= HISTORY_LIMIT; row++) {
                rows[row] = new Meet();
            }
        }

        void prepare(Meet meet) {
            if (kept >= 0 && kept <= HISTORY_LIMIT) {
                rows[kept].copyFrom(meet);
            }
        }

        int keepUnlessError(int answer) {
            if (answer >= 0) {
                kept++;
                if (kept > HISTORY_LIMIT) {
                    dropOldest();
                }
            }
            return answer;
        }

        void dropOldest() {
            Meet oldest = rows[0];
            for (int row = 0; row < HISTORY_LIMIT; row++) {
                rows[row] = rows[row + 1];
            }
            rows[HISTORY_LIMIT] = oldest;
            kept = HISTORY_LIMIT;
        }

        int restoreInto(Meet meet) {
            if (kept < 1 || kept > HISTORY_LIMIT) {
                return NOT_POSSIBLE;
            }
            kept--;
            meet.copyFrom(rows[kept]);
            return kept;
        }
    }

    /** The text, and the order in it that was read last. */
    private static final class OrderText {
        final int[] signs = new int[TEXT_LIMIT];
        int length;
        int start;
        int position;
        int kind;
        int first;
        int second;
        int number;

        int append(int sign) {
            if (length >= TEXT_LIMIT) {
                return LIMIT_REACHED;
            }
            signs[length] = sign;
            length++;
            return length;
        }

        int empty() {
            int before = length;
            length = 0;
            return before;
        }

        void rewind() {
            position = 0;
        }

        boolean hasMore() {
            return position < length;
        }

        /** If the order is not of the form, the position stays where it breaks off. */
        boolean readOrder() {
            start = position;
            kind = signHere();
            int numbers = numbersOf(kind);
            if (numbers < 0) {
                return false;
            }
            position++;
            if (numbers > 0 && !readNumber()) {
                return false;
            }
            first = number;
            if (numbers > 1 && !(readSign(',') && readNumber())) {
                return false;
            }
            second = number;
            return readSign(';');
        }

        int numbersOf(int sign) {
            switch (sign) {
                case 'e':
                case 's':
                    return 2;
                case 'x':
                    return 1;
                case 'd':
                case 'f':
                case 'o':
                case 'n':
                    return 0;
                default:
                    return -1;
            }
        }

        int signHere() {
            return position >= 0 && position < length && position < TEXT_LIMIT ? signs[position] : 0;
        }

        boolean readSign(int sign) {
            if (signHere() != sign) {
                return false;
            }
            position++;
            return true;
        }

        boolean readNumber() {
            number = 0;
            int digits = 0;
            while (digits < 3 && signHere() >= '0' && signHere() <= '9') {
                number = number * 10 + signHere() - '0';
                position++;
                digits++;
            }
            return digits > 0;
        }
    }

    /** Does the orders of a text on a trial meet, up to the first that is not possible. */
    private static final class Rehearsal {
        int orders;
        int position;
        int reason;
        int cause;

        void tryOrders(OrderText text, Meet meet, Meet trial) {
            trial.copyFrom(meet);
            orders = 0;
            reason = NO_FAULT;
            text.rewind();
            for (int turn = 0; turn < TEXT_LIMIT && reason == NO_FAULT && text.hasMore(); turn++) {
                boolean formed = text.readOrder();
                int answer = formed ? obey(text, trial) : text.position - text.start;
                if (formed && answer >= 0) {
                    orders++;
                } else {
                    position = text.start;
                    reason = formed ? REFUSED : WRONG_FORM;
                    cause = answer;
                }
            }
        }

        int obey(OrderText text, Meet trial) {
            switch (text.kind) {
                case 'e':
                    return Changes.addSwimmer(trial, text.first, text.second);
                case 's':
                    return Changes.giveTime(trial, text.first, text.second);
                case 'x':
                    return Changes.withdraw(trial, text.first);
                case 'd':
                    return Changes.drawHeats(trial);
                case 'f':
                    return Changes.drawFinal(trial);
                case 'o':
                    return Changes.endEvent(trial);
                case 'n':
                    return Changes.beginNextEvent(trial);
                default:
                    return NOT_POSSIBLE;
            }
        }
    }
}
