/**
 * Commuter bicycle sheds with permits, wait lists, racks, sweeps and a pound.
 *
 * <p>An answer below 0 is one of the error codes or NONE; a call that answers an error changes nothing.
 */
public final class BikeSheds {
    public static final int NO_SUCH = -1, BAD_VALUE = -2, BAD_TEXT = -3, TOO_MANY = -4, NOT_POSSIBLE = -5, NONE = -6;
    public static final int SPARE = 0, IDLE = 1, NOTICE = 2, KEEP = 3;

    private static final int PEOPLE = 20;
    private static final int SHEDS = 3;
    private static final int RACKS = 8;
    private static final int ALL_RACKS = (1 << RACKS) - 1;

    private static final int SETTINGS = 4;
    private static final int[] LOWEST_VALUES = {0, 1, 1, 1};
    private static final int[] HIGHEST_VALUES = {5, 60, 30, 99};
    private static final int[] FIRST_VALUES = {1, 10, 5, 20};

    private static final int MOST_DAYS = 99;
    private static final int LAST_DAY = 9999;
    private static final int DAYS_LOOKED_AHEAD = 300;

    private static final int LONGEST_PAD = 60;
    private static final int MOST_DEEDS = LONGEST_PAD;
    private static final int CHARACTERS_AT_ONCE = 8;
    private static final int LOWEST_CODE = 33;
    private static final int HIGHEST_CODE = 126;

    private static final int LONGEST_HISTORY = 6;
    private static final int SLOTS = 2;

    private final State now = new State();
    private final State before = new State();
    private final State trial = new State();
    private final History history = new History();
    private final State[] slots = new State[SLOTS];
    private final DeedReader reader = new DeedReader();

    public BikeSheds() {
    }

    // ---- changes

    public int set(int setting, int value) {
        before.copyFrom(now);
        return recorded(now.changeSetting(setting, value));
    }

    public int ask(int person, int shed, int days) {
        before.copyFrom(now);
        return recorded(now.askFor(person, shed, days));
    }

    public int giveUp(int person) {
        before.copyFrom(now);
        return recorded(now.giveUpAll(person));
    }

    public int prolong(int person, int days) {
        before.copyFrom(now);
        return recorded(now.lengthen(person, days));
    }

    public int park(int person) {
        before.copyFrom(now);
        return recorded(now.parkBicycle(person));
    }

    public int ride(int person) {
        before.copyFrom(now);
        return recorded(now.rideAway(person));
    }

    public int answer(int person) {
        before.copyFrom(now);
        return recorded(now.answerFor(person));
    }

    public int fetch(int person) {
        before.copyFrom(now);
        return recorded(now.fetchFromPound(person));
    }

    public int sweep(int shed) {
        before.copyFrom(now);
        return recorded(now.sweepShed(shed));
    }

    public int use(int shed, int rack, boolean isInUse) {
        before.copyFrom(now);
        return recorded(now.changeUse(shed, rack, isInUse));
    }

    public int pass(int days) {
        before.copyFrom(now);
        return recorded(now.letPass(days));
    }

    public int run() {
        if (reader.findFault() != NONE) {
            return BAD_TEXT;
        }
        before.copyFrom(now);
        reader.goToStart();
        int deedsDone = 0;
        for (int i = 0; i < MOST_DEEDS && reader.readDeed(); i++) {
            if (doDeed() >= 0) {
                deedsDone++;
            }
            reader.readSemicolon();
        }
        reader.pad.clear();
        return recorded(deedsDone);
    }

    // ---- what there is; nothing changes

    public int person(int person, int what) {
        if (!isPerson(person)) {
            return NO_SUCH;
        }
        return now.aboutPerson(person, what);
    }

    public int shed(int shed, int what) {
        if (!isShed(shed)) {
            return NO_SUCH;
        }
        return now.aboutShed(shed, what);
    }

    public int waiting(int shed, int place, int what) {
        if (!isShed(shed)) {
            return NO_SUCH;
        }
        return now.permits.aboutPlace(shed, place, what);
    }

    public int count(int what) {
        switch (what) {
            case 13:
                return reader.pad.length;
            case 14:
                return history.length;
            default:
                return now.aboutAll(what);
        }
    }

    // ---- what if; nothing changes

    public int untilPermit(int person) {
        if (!isPerson(person)) {
            return NO_SUCH;
        }
        if (!now.permits.waitsForSome(person)) {
            return NOT_POSSIBLE;
        }
        trial.copyFrom(now);
        return trial.passUntilPermit(person);
    }

    public int bestShed(int person, int days, int what) {
        if (!isPerson(person)) {
            return NO_SUCH;
        }
        if (!isFrom(1, days, MOST_DAYS) || !isFrom(0, what, 1)) {
            return BAD_VALUE;
        }
        if (now.permits.hasPermit(person) || now.permits.waitsForSome(person)) {
            return NOT_POSSIBLE;
        }
        int best = NONE;
        int fewestDays = NONE;
        for (int shed = 0; shed < SHEDS; shed++) {
            int daysToWait = daysToWaitFor(person, shed, days);
            if (daysToWait != NONE && (best == NONE || daysToWait < fewestDays)) {
                best = shed;
                fewestDays = daysToWait;
            }
        }
        return what == 0 ? best : fewestDays;
    }

    public int ifSwept(int shed, int days) {
        if (!isShed(shed)) {
            return NO_SUCH;
        }
        if (!isFrom(0, days, MOST_DAYS)) {
            return BAD_VALUE;
        }
        // A sweep's own tags are 0 days old and NOTICE is at least 1, so only the tags of now count.
        return now.bicycles.countTagged(shed, now.latestDueTag(days));
    }

    // ---- texts

    public int put(long characters) {
        return reader.pad.append(characters);
    }

    public int wipe() {
        return reader.pad.clear();
    }

    public int fault() {
        return reader.findFault();
    }

    // ---- undo, saving

    public int undo() {
        if (!history.takeBack(now)) {
            return NOT_POSSIBLE;
        }
        return history.length;
    }

    public int save(int slot) {
        if (!isFrom(0, slot, SLOTS - 1)) {
            return BAD_VALUE;
        }
        slots[slot] = copyInto(slots[slot], now);
        return now.day;
    }

    public int restore(int slot) {
        if (!isFrom(0, slot, SLOTS - 1)) {
            return BAD_VALUE;
        }
        State saved = slots[slot];
        if (saved == null) {
            return NOT_POSSIBLE;
        }
        before.copyFrom(now);
        now.copyFrom(saved);
        return recorded(now.day);
    }

    // ---- the parts

    private static boolean isFrom(int lowest, int value, int highest) {
        return lowest <= value && value <= highest;
    }

    private static boolean isPerson(int person) {
        return 0 <= person && person < PEOPLE;
    }

    private static boolean isShed(int shed) {
        return 0 <= shed && shed < SHEDS;
    }

    private static boolean isRack(int rack) {
        return 0 <= rack && rack < RACKS;
    }

    private static int[] noneForEachPerson() {
        int[] row = new int[PEOPLE];
        for (int person = 0; person < PEOPLE; person++) {
            row[person] = NONE;
        }
        return row;
    }

    /** Counts the people whose entry in a row is not NONE. */
    private static int countPeople(int[] row) {
        int people = 0;
        for (int i = 0; i < row.length; i++) {
            if (row[i] != NONE) {
                people++;
            }
        }
        return people;
    }

    /** Copies into the row that is there already, so that a run makes few objects. */
    private static State copyInto(State old, State source) {
        State copy = old == null ? new State() : old;
        copy.copyFrom(source);
        return copy;
    }

    /** No change answers NONE: below 0 there are only errors, and they are not recorded. */
    private int recorded(int answer) {
        if (answer >= 0) {
            history.record(before);
        }
        return answer;
    }

    private int doDeed() {
        switch (reader.kind) {
            case '?':
                return now.askFor(reader.person, reader.shed, reader.number);
            case 'p':
                return now.parkBicycle(reader.person);
            case 'r':
                return now.rideAway(reader.person);
            case 'a':
                return now.answerFor(reader.person);
            case 'f':
                return now.fetchFromPound(reader.person);
            case 's':
                return now.sweepShed(reader.shed);
            default:
                return now.letPass(reader.number);
        }
    }

    private int daysToWaitFor(int person, int shed, int days) {
        trial.copyFrom(now);
        int place = trial.askFor(person, shed, days);
        return place == 0 ? 0 : trial.passUntilPermit(person);
    }

    /** All that undo() and restore() bring back. */
    private static final class State {
        private final int[] settings = FIRST_VALUES.clone();
        private final int[] racksInUse = {ALL_RACKS, ALL_RACKS, ALL_RACKS};
        private final Permits permits = new Permits();
        private final Bicycles bicycles = new Bicycles();
        private int day;

        void copyFrom(State other) {
            System.arraycopy(other.settings, 0, settings, 0, SETTINGS);
            System.arraycopy(other.racksInUse, 0, racksInUse, 0, SHEDS);
            permits.copyFrom(other.permits);
            bicycles.copyFrom(other.bicycles);
            day = other.day;
        }

        int changeSetting(int setting, int value) {
            if (!isFrom(0, setting, SETTINGS - 1)
                    || !isFrom(LOWEST_VALUES[setting], value, HIGHEST_VALUES[setting])) {
                return BAD_VALUE;
            }
            int previous = settings[setting];
            settings[setting] = value;
            moveUp();
            return previous;
        }

        int askFor(int person, int shed, int days) {
            if (!isPerson(person) || !isShed(shed)) {
                return NO_SUCH;
            }
            if (!isFrom(1, days, MOST_DAYS)) {
                return BAD_VALUE;
            }
            if (permits.hasPermit(person) || permits.waitsFor(person, shed)) {
                return NOT_POSSIBLE;
            }
            if (permits.countOf(shed) < permitsToGive(shed) && permits.countWaiting(shed) == 0) {
                permits.give(person, shed, days, day);
                return 0;
            }
            return permits.queue(person, shed, days, day);
        }

        int giveUpAll(int person) {
            if (!isPerson(person)) {
                return NO_SUCH;
            }
            if (!permits.hasPermit(person) && !permits.waitsForSome(person)) {
                return NOT_POSSIBLE;
            }
            int daysLeft = permits.hasPermit(person) ? permits.lastDay[person] - day + 1 : 0;
            permits.end(person);
            permits.leaveLists(person);
            moveUp();
            return daysLeft;
        }

        int lengthen(int person, int days) {
            if (!isPerson(person)) {
                return NO_SUCH;
            }
            if (!isFrom(1, days, MOST_DAYS)) {
                return BAD_VALUE;
            }
            if (!permits.hasPermit(person) || permits.countWaiting(permits.shedOf[person]) > 0) {
                return NOT_POSSIBLE;
            }
            permits.lastDay[person] += days;
            return permits.lastDay[person];
        }

        int parkBicycle(int person) {
            if (!isPerson(person)) {
                return NO_SUCH;
            }
            if (!permits.hasPermit(person) || bicycles.isInRack(person) || bicycles.isInPound(person)) {
                return NOT_POSSIBLE;
            }
            int shed = permits.shedOf[person];
            int rack = lowestFreeRack(shed);
            if (rack == NONE) {
                return TOO_MANY;
            }
            bicycles.placeInRack(person, shed, rack, day);
            return rack;
        }

        int rideAway(int person) {
            if (!isPerson(person)) {
                return NO_SUCH;
            }
            if (!bicycles.isInRack(person)) {
                return NOT_POSSIBLE;
            }
            int daysIdle = day - bicycles.parkedOn[person];
            bicycles.leaveRack(person);
            return daysIdle;
        }

        int answerFor(int person) {
            if (!isPerson(person)) {
                return NO_SUCH;
            }
            if (!bicycles.isInRack(person)) {
                return NOT_POSSIBLE;
            }
            int tags = bicycles.isTagged(person) ? 1 : 0;
            bicycles.parkedOn[person] = day;
            bicycles.tagDay[person] = NONE;
            return tags;
        }

        int fetchFromPound(int person) {
            if (!isPerson(person)) {
                return NO_SUCH;
            }
            if (!bicycles.isInPound(person)) {
                return NOT_POSSIBLE;
            }
            int daysThere = day - bicycles.poundSince[person];
            bicycles.poundSince[person] = NONE;
            return daysThere;
        }

        int sweepShed(int shed) {
            if (!isShed(shed)) {
                return NO_SUCH;
            }
            for (int person = 0; person < PEOPLE; person++) {
                if (bicycles.shedOf[person] == shed && !bicycles.isTagged(person) && looksAbandoned(person)) {
                    bicycles.tagDay[person] = day;
                }
            }
            return bicycles.takeTagged(shed, latestDueTag(0), day);
        }

        int changeUse(int shed, int rack, boolean isInUse) {
            if (!isShed(shed) || !isRack(rack)) {
                return NO_SUCH;
            }
            boolean wasInUse = ((racksInUse[shed] >> rack) & 1) == 1;
            if (wasInUse == isInUse) {
                return NOT_POSSIBLE;
            }
            racksInUse[shed] ^= 1 << rack;
            moveUp();
            return Integer.bitCount(racksInUse[shed]);
        }

        int letPass(int days) {
            if (!isFrom(1, days, MOST_DAYS)) {
                return BAD_VALUE;
            }
            if (day + days > LAST_DAY) {
                return TOO_MANY;
            }
            int givenBefore = permits.given;
            for (int i = 0; i < days; i++) {
                beginDay();
            }
            return permits.given - givenBefore;
        }

        /** Lets days pass, above LAST_DAY too, until the person has a permit; answers how many, or NONE. */
        int passUntilPermit(int person) {
            for (int days = 1; days <= DAYS_LOOKED_AHEAD; days++) {
                beginDay();
                if (permits.hasPermit(person)) {
                    return days;
                }
            }
            return NONE;
        }

        private void beginDay() {
            day++;
            permits.endBefore(day);
            bicycles.sellFromPound(day - settings[KEEP]);
            moveUp();
        }

        /** Where nothing has become free, nobody moves: whoever waits does so for a shed that is full. */
        private void moveUp() {
            for (int shed = 0; shed < SHEDS; shed++) {
                int free = permitsToGive(shed) - permits.countOf(shed);
                for (int i = 0; i < free; i++) {
                    int first = permits.whoIsAt(shed, 0);
                    if (isPerson(first)) {
                        permits.give(first, shed, permits.daysAsked[shed][first], day);
                    }
                }
            }
        }

        private int permitsToGive(int shed) {
            return Integer.bitCount(racksInUse[shed]) + settings[SPARE];
        }

        private int lowestFreeRack(int shed) {
            int free = racksInUse[shed] & ~bicycles.racksTaken(shed);
            for (int rack = 0; rack < RACKS; rack++) {
                if (((free >> rack) & 1) == 1) {
                    return rack;
                }
            }
            return NONE;
        }

        private boolean looksAbandoned(int person) {
            return day - bicycles.parkedOn[person] >= settings[IDLE] || isWithoutPermit(person);
        }

        /** Whether the owner of a bicycle in a rack has no permit for the shed in which it is. */
        private boolean isWithoutPermit(int person) {
            return permits.shedOf[person] != bicycles.shedOf[person];
        }

        /** The latest day of a tag that is old enough, behind some days, for the pound. */
        int latestDueTag(int days) {
            return day + days - settings[NOTICE];
        }

        int aboutPerson(int person, int what) {
            switch (what) {
                case 0:
                    return permits.shedOf[person];
                case 1:
                    return permits.lastDay[person];
                case 2:
                    return permits.shedsWaitedFor(person);
                case 3:
                    return bicycles.shedOf[person];
                case 4:
                    return bicycles.rackOf[person];
                case 5:
                    return bicycles.isInRack(person) ? day - bicycles.parkedOn[person] : NONE;
                case 6:
                    return bicycles.tagDay[person];
                case 7:
                    return bicycles.isInPound(person) ? day - bicycles.poundSince[person] : NONE;
                case 8:
                    return bicycles.soldOf[person];
                default:
                    return BAD_VALUE;
            }
        }

        int aboutShed(int shed, int what) {
            switch (what) {
                case 0:
                    return racksInUse[shed];
                case 1:
                    return permitsToGive(shed);
                case 2:
                    return permits.countOf(shed);
                case 3:
                    return permits.countWaiting(shed);
                case 4:
                    return bicycles.racksTaken(shed);
                case 5:
                    return bicycles.racksTagged(shed);
                case 6:
                    return racksWithoutPermit(shed);
                default:
                    return BAD_VALUE;
            }
        }

        private int racksWithoutPermit(int shed) {
            int racks = 0;
            for (int person = 0; person < PEOPLE; person++) {
                if (bicycles.shedOf[person] == shed && isWithoutPermit(person)) {
                    racks |= 1 << bicycles.rackOf[person];
                }
            }
            return racks;
        }

        int aboutAll(int what) {
            switch (what) {
                case SPARE:
                case IDLE:
                case NOTICE:
                case KEEP:
                    return settings[what];
                case 4:
                    return day;
                case 5:
                    return permits.countAll();
                case 6:
                    return permits.countAllWaiting();
                case 7:
                    return bicycles.countInRacks();
                case 8:
                    return bicycles.countAllTagged();
                case 9:
                    return bicycles.countInPound();
                case 10:
                    return bicycles.countSold();
                case 11:
                    return bicycles.takenToPound;
                case 12:
                    return permits.given;
                default:
                    return BAD_VALUE;
            }
        }
    }

    /** Who has a permit for which shed, and who waits for one. */
    private static final class Permits {
        private final int[] shedOf = noneForEachPerson();
        private final int[] lastDay = noneForEachPerson();
        private final int[][] placeOf = {noneForEachPerson(), noneForEachPerson(), noneForEachPerson()};
        private final int[][] daysAsked = new int[SHEDS][PEOPLE];
        private final int[][] dayOfAsking = new int[SHEDS][PEOPLE];
        private int given;

        void copyFrom(Permits other) {
            System.arraycopy(other.shedOf, 0, shedOf, 0, PEOPLE);
            System.arraycopy(other.lastDay, 0, lastDay, 0, PEOPLE);
            for (int shed = 0; shed < SHEDS; shed++) {
                System.arraycopy(other.placeOf[shed], 0, placeOf[shed], 0, PEOPLE);
                System.arraycopy(other.daysAsked[shed], 0, daysAsked[shed], 0, PEOPLE);
                System.arraycopy(other.dayOfAsking[shed], 0, dayOfAsking[shed], 0, PEOPLE);
            }
            given = other.given;
        }

        boolean hasPermit(int person) {
            return isShed(shedOf[person]);
        }

        boolean waitsFor(int person, int shed) {
            return placeOf[shed][person] != NONE;
        }

        boolean waitsForSome(int person) {
            return shedsWaitedFor(person) != 0;
        }

        int shedsWaitedFor(int person) {
            int sheds = 0;
            for (int shed = 0; shed < SHEDS; shed++) {
                if (waitsFor(person, shed)) {
                    sheds |= 1 << shed;
                }
            }
            return sheds;
        }

        int countOf(int shed) {
            int permits = 0;
            for (int person = 0; person < PEOPLE; person++) {
                if (shedOf[person] == shed) {
                    permits++;
                }
            }
            return permits;
        }

        int countAll() {
            return countPeople(shedOf);
        }

        int countWaiting(int shed) {
            return countPeople(placeOf[shed]);
        }

        int countAllWaiting() {
            int people = 0;
            for (int person = 0; person < PEOPLE; person++) {
                if (waitsForSome(person)) {
                    people++;
                }
            }
            return people;
        }

        void give(int person, int shed, int days, int day) {
            shedOf[person] = shed;
            lastDay[person] = day + days - 1;
            given++;
            leaveLists(person);
        }

        void end(int person) {
            shedOf[person] = NONE;
            lastDay[person] = NONE;
        }

        void endBefore(int day) {
            for (int person = 0; person < PEOPLE; person++) {
                if (hasPermit(person) && lastDay[person] < day) {
                    end(person);
                }
            }
        }

        /** Answers how many wait then, which is the person's place counted from 1. */
        int queue(int person, int shed, int days, int day) {
            int place = countWaiting(shed);
            placeOf[shed][person] = place;
            daysAsked[shed][person] = days;
            dayOfAsking[shed][person] = day;
            return place + 1;
        }

        /** Whoever waits behind the person comes nearer by one place. */
        void leaveLists(int person) {
            for (int shed = 0; shed < SHEDS; shed++) {
                int place = placeOf[shed][person];
                placeOf[shed][person] = NONE;
                for (int other = 0; place != NONE && other < PEOPLE; other++) {
                    if (placeOf[shed][other] > place) {
                        placeOf[shed][other]--;
                    }
                }
            }
        }

        int whoIsAt(int shed, int place) {
            for (int person = 0; person < PEOPLE; person++) {
                if (waitsFor(person, shed) && placeOf[shed][person] == place) {
                    return person;
                }
            }
            return NONE;
        }

        int aboutPlace(int shed, int place, int what) {
            int person = whoIsAt(shed, place);
            if (!isPerson(person)) {
                return NO_SUCH;
            }
            switch (what) {
                case 0:
                    return person;
                case 1:
                    return daysAsked[shed][person];
                case 2:
                    return dayOfAsking[shed][person];
                default:
                    return BAD_VALUE;
            }
        }
    }

    /** The bicycles in racks and in the pound, at most one of each person. */
    private static final class Bicycles {
        private final int[] shedOf = noneForEachPerson();
        private final int[] rackOf = noneForEachPerson();
        private final int[] parkedOn = noneForEachPerson();
        private final int[] tagDay = noneForEachPerson();
        private final int[] poundSince = noneForEachPerson();
        private final int[] soldOf = new int[PEOPLE];
        private int takenToPound;

        void copyFrom(Bicycles other) {
            System.arraycopy(other.shedOf, 0, shedOf, 0, PEOPLE);
            System.arraycopy(other.rackOf, 0, rackOf, 0, PEOPLE);
            System.arraycopy(other.parkedOn, 0, parkedOn, 0, PEOPLE);
            System.arraycopy(other.tagDay, 0, tagDay, 0, PEOPLE);
            System.arraycopy(other.poundSince, 0, poundSince, 0, PEOPLE);
            System.arraycopy(other.soldOf, 0, soldOf, 0, PEOPLE);
            takenToPound = other.takenToPound;
        }

        boolean isInRack(int person) {
            return shedOf[person] != NONE;
        }

        boolean isTagged(int person) {
            return tagDay[person] != NONE;
        }

        boolean isInPound(int person) {
            return poundSince[person] != NONE;
        }

        void placeInRack(int person, int shed, int rack, int day) {
            shedOf[person] = shed;
            rackOf[person] = rack;
            parkedOn[person] = day;
        }

        /** The tag hangs on a bicycle in a rack alone: it has had its use when the rack is free. */
        void leaveRack(int person) {
            shedOf[person] = NONE;
            rackOf[person] = NONE;
            parkedOn[person] = NONE;
            tagDay[person] = NONE;
        }

        private boolean isDue(int person, int shed, int latestTag) {
            return shedOf[person] == shed && isTagged(person) && tagDay[person] <= latestTag;
        }

        int countTagged(int shed, int latestTag) {
            int bicycles = 0;
            for (int person = 0; person < PEOPLE; person++) {
                if (isDue(person, shed, latestTag)) {
                    bicycles++;
                }
            }
            return bicycles;
        }

        int takeTagged(int shed, int latestTag, int day) {
            int bicycles = 0;
            for (int person = 0; person < PEOPLE; person++) {
                if (isDue(person, shed, latestTag)) {
                    leaveRack(person);
                    poundSince[person] = day;
                    bicycles++;
                }
            }
            takenToPound += bicycles;
            return bicycles;
        }

        void sellFromPound(int latestDay) {
            for (int person = 0; person < PEOPLE; person++) {
                if (isInPound(person) && poundSince[person] <= latestDay) {
                    poundSince[person] = NONE;
                    soldOf[person]++;
                }
            }
        }

        int racksTaken(int shed) {
            int racks = 0;
            for (int person = 0; person < PEOPLE; person++) {
                if (shedOf[person] == shed) {
                    racks |= 1 << rackOf[person];
                }
            }
            return racks;
        }

        int racksTagged(int shed) {
            int racks = 0;
            for (int person = 0; person < PEOPLE; person++) {
                if (shedOf[person] == shed && isTagged(person)) {
                    racks |= 1 << rackOf[person];
                }
            }
            return racks;
        }

        int countInRacks() {
            return countPeople(shedOf);
        }

        int countAllTagged() {
            return countPeople(tagDay);
        }

        int countInPound() {
            return countPeople(poundSince);
        }

        int countSold() {
            int bicycles = 0;
            for (int person = 0; person < PEOPLE; person++) {
                bicycles += soldOf[person];
            }
            return bicycles;
        }
    }

    /** The states before the latest changes, the oldest one first. */
    private static final class History {
        private final State[] states = new State[LONGEST_HISTORY];
        private int length;

        void record(State before) {
            if (length == LONGEST_HISTORY) {
                dropOldest();
            }
            states[length] = copyInto(states[length], before);
            length++;
        }

        /** Keeps the dropped state's rows behind the others, where they are used again. */
        private void dropOldest() {
            State oldest = states[0];
            for (int i = 1; i < LONGEST_HISTORY; i++) {
                states[i - 1] = states[i];
            }
            states[LONGEST_HISTORY - 1] = oldest;
            length--;
        }

        boolean takeBack(State target) {
            if (length == 0) {
                return false;
            }
            State latest = states[length - 1];
            if (latest == null) {
                return false;
            }
            target.copyFrom(latest);
            length--;
            return true;
        }
    }

    /** The characters that were put, whether or not they make deeds. */
    private static final class Pad {
        private final char[] text = new char[LONGEST_PAD];
        private int length;

        int append(long characters) {
            int amount = countCharacters(characters);
            if (amount == 0) {
                return BAD_VALUE;
            }
            if (length + amount > LONGEST_PAD) {
                return TOO_MANY;
            }
            for (int i = amount - 1; i >= 0; i--) {
                text[length] = (char) codeAt(characters, i);
                length++;
            }
            return length;
        }

        /** Answers 0 if the number does not stand for characters. */
        private static int countCharacters(long characters) {
            int amount = 0;
            while (amount < CHARACTERS_AT_ONCE && isFrom(LOWEST_CODE, codeAt(characters, amount), HIGHEST_CODE)) {
                amount++;
            }
            // A shift by all 64 bits would shift by none.
            boolean isAll = amount == CHARACTERS_AT_ONCE || (characters >>> (8 * amount)) == 0;
            return isAll ? amount : 0;
        }

        private static int codeAt(long characters, int fromTheEnd) {
            return (int) ((characters >>> (8 * fromTheEnd)) & 255);
        }

        int clear() {
            int previous = length;
            length = 0;
            return previous;
        }

        /** Answers 0 where there is no character: none on a pad has this code. */
        char characterAt(int index) {
            return 0 <= index && index < length ? text[index] : 0;
        }
    }

    /** Reads the deeds of its pad from left to right, and tells the one that it read last. */
    private static final class DeedReader {
        private final Pad pad = new Pad();
        private int position;
        private char latest;
        private int kind;
        private int person;
        private int shed;
        private int number;

        int findFault() {
            goToStart();
            for (int i = 0; i < MOST_DEEDS; i++) {
                if (!readDeed()) {
                    return position;
                }
                if (!readSemicolon()) {
                    return position == pad.length ? NONE : position;
                }
            }
            return position;
        }

        void goToStart() {
            position = 0;
        }

        boolean readSemicolon() {
            return readOne(';');
        }

        /** Stops before the first character that cannot stand at its place, and answers whether there is none. */
        boolean readDeed() {
            if (readFrom('A', 'T')) {
                person = latest - 'A';
                return readDeedOfPerson();
            }
            kind = pad.characterAt(position);
            if (readOne('s')) {
                return readShed();
            }
            return readOne('.') && readNumber();
        }

        private boolean readDeedOfPerson() {
            kind = pad.characterAt(position);
            if (readOne('?')) {
                return readShed() && readOne(':') && readNumber();
            }
            return readOne('p') || readOne('r') || readOne('a') || readOne('f');
        }

        private boolean readShed() {
            if (!readFrom('0', '2')) {
                return false;
            }
            shed = latest - '0';
            return true;
        }

        private boolean readNumber() {
            if (!readFrom('1', '9')) {
                return false;
            }
            number = latest - '0';
            if (readFrom('0', '9')) {
                number = number * 10 + latest - '0';
            }
            return true;
        }

        private boolean readOne(char wanted) {
            return readFrom(wanted, wanted);
        }

        private boolean readFrom(char first, char last) {
            char next = pad.characterAt(position);
            if (next < first || next > last) {
                return false;
            }
            latest = next;
            position++;
            return true;
        }
    }
}
