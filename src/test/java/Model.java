import java.util.ArrayDeque;
import java.util.ArrayList;
import java.util.Deque;
import java.util.List;
import java.util.regex.Matcher;
import java.util.regex.Pattern;

/**
 * The document once more, in another form than the program's: objects that refer to each other, lists, and
 * copies of the whole. It is slow, and there only to be compared with.
 */
final class Model {
    private static final Pattern DEED = Pattern.compile("([A-T])\\?([0-2]):([1-9][0-9]?)|([A-T])([praf])|s([0-2])|\\.([1-9][0-9]?)");

    private record Ask(int person, int days, int day) {
    }

    private static final class Bicycle {
        int shed;
        int rack;
        int parked;
        Integer tag;

        Bicycle copy() {
            Bicycle copy = new Bicycle();
            copy.shed = shed;
            copy.rack = rack;
            copy.parked = parked;
            copy.tag = tag;
            return copy;
        }
    }

    private static final class World {
        int[] settings = {1, 10, 5, 20};
        int day;
        Integer[] permit = new Integer[20];
        int[] last = new int[20];
        List<List<Ask>> lists = new ArrayList<>();
        List<List<Integer>> closed = new ArrayList<>();
        Bicycle[] bicycles = new Bicycle[20];
        Integer[] pound = new Integer[20];
        int[] sold = new int[20];
        int taken;
        int given;

        World() {
            for (int i = 0; i < 3; i++) {
                lists.add(new ArrayList<>());
                closed.add(new ArrayList<>());
            }
        }

        World copy() {
            World copy = new World();
            copy.settings = settings.clone();
            copy.day = day;
            copy.permit = permit.clone();
            copy.last = last.clone();
            for (int i = 0; i < 3; i++) {
                copy.lists.get(i).addAll(lists.get(i));
                copy.closed.get(i).addAll(closed.get(i));
            }
            for (int i = 0; i < 20; i++) {
                copy.bicycles[i] = bicycles[i] == null ? null : bicycles[i].copy();
            }
            copy.pound = pound.clone();
            copy.sold = sold.clone();
            copy.taken = taken;
            copy.given = given;
            return copy;
        }

        int toGive(int shed) {
            return 8 - closed.get(shed).size() + settings[0];
        }

        int givenOf(int shed) {
            int n = 0;
            for (Integer p : permit) {
                n += p != null && p == shed ? 1 : 0;
            }
            return n;
        }

        boolean waits(int person, int shed) {
            return lists.get(shed).stream().anyMatch(ask -> ask.person == person);
        }

        boolean waits(int person) {
            return waits(person, 0) || waits(person, 1) || waits(person, 2);
        }

        void leave(int person) {
            lists.forEach(list -> list.removeIf(ask -> ask.person == person));
        }

        void give(int person, int shed, int days) {
            permit[person] = shed;
            last[person] = day + days - 1;
            given++;
            leave(person);
        }

        void moveUp() {
            for (int shed = 0; shed < 3; shed++) {
                while (givenOf(shed) < toGive(shed) && !lists.get(shed).isEmpty()) {
                    Ask first = lists.get(shed).get(0);
                    give(first.person, shed, first.days);
                }
            }
        }

        void beginDay() {
            day++;
            for (int p = 0; p < 20; p++) {
                if (permit[p] != null && last[p] < day) {
                    permit[p] = null;
                }
                if (pound[p] != null && day - pound[p] >= settings[3]) {
                    pound[p] = null;
                    sold[p]++;
                }
            }
            moveUp();
        }

        Bicycle in(int shed, int rack) {
            for (Bicycle b : bicycles) {
                if (b != null && b.shed == shed && b.rack == rack) {
                    return b;
                }
            }
            return null;
        }

        boolean hasPermit(int person, int shed) {
            return permit[person] != null && permit[person] == shed;
        }
    }

    World world = new World();
    final Deque<World> history = new ArrayDeque<>();
    final World[] slots = new World[2];
    final StringBuilder pad = new StringBuilder();

    private static boolean out(int value, int low, int high) {
        return value < low || value > high;
    }

    /** The name of a method and its arguments; for use() 0 stands for false. */
    int call(String name, long a, long b, long c) {
        int x = (int) a;
        int y = (int) b;
        int z = (int) c;
        World old = world.copy();
        int answer = switch (name) {
            case "run" -> run();
            case "restore" -> restore(x);
            default -> change(name, x, y, z);
        };
        if (answer != Integer.MIN_VALUE) {
            if (answer >= 0) {
                history.addLast(old);
                if (history.size() > 6) {
                    history.removeFirst();
                }
            }
            return answer;
        }
        return switch (name) {
            case "person" -> person(x, y);
            case "shed" -> shed(x, y);
            case "waiting" -> waiting(x, y, z);
            case "count" -> count(x);
            case "untilPermit" -> untilPermit(x);
            case "bestShed" -> bestShed(x, y, z);
            case "ifSwept" -> ifSwept(x, y);
            case "put" -> put(a);
            case "wipe" -> wipe();
            case "fault" -> fault();
            case "undo" -> undo();
            case "save" -> save(x);
            default -> throw new IllegalArgumentException(name);
        };
    }

    private int change(String name, int x, int y, int z) {
        return switch (name) {
            case "set" -> set(x, y);
            case "ask" -> ask(x, y, z);
            case "giveUp" -> giveUp(x);
            case "prolong" -> prolong(x, y);
            case "park" -> park(x);
            case "ride" -> ride(x);
            case "answer" -> answer(x);
            case "fetch" -> fetch(x);
            case "sweep" -> sweep(x);
            case "use" -> use(x, y, z != 0);
            case "pass" -> pass(x);
            default -> Integer.MIN_VALUE;
        };
    }

    private int set(int setting, int value) {
        int[] lows = {0, 1, 1, 1};
        int[] highs = {5, 60, 30, 99};
        if (out(setting, 0, 3) || out(value, lows[setting], highs[setting])) {
            return -2;
        }
        int previous = world.settings[setting];
        world.settings[setting] = value;
        if (setting == 0 && value > previous) {
            world.moveUp();
        }
        return previous;
    }

    private int ask(int person, int shed, int days) {
        if (out(person, 0, 19) || out(shed, 0, 2)) {
            return -1;
        }
        if (out(days, 1, 99)) {
            return -2;
        }
        if (world.permit[person] != null || world.waits(person, shed)) {
            return -5;
        }
        if (world.givenOf(shed) < world.toGive(shed) && world.lists.get(shed).isEmpty()) {
            world.give(person, shed, days);
            return 0;
        }
        world.lists.get(shed).add(new Ask(person, days, world.day));
        return world.lists.get(shed).size();
    }

    private int giveUp(int person) {
        if (out(person, 0, 19)) {
            return -1;
        }
        if (world.permit[person] == null && !world.waits(person)) {
            return -5;
        }
        int left = world.permit[person] == null ? 0 : world.last[person] + 1 - world.day;
        world.permit[person] = null;
        world.leave(person);
        world.moveUp();
        return left;
    }

    private int prolong(int person, int days) {
        if (out(person, 0, 19)) {
            return -1;
        }
        if (out(days, 1, 99)) {
            return -2;
        }
        if (world.permit[person] == null || !world.lists.get(world.permit[person]).isEmpty()) {
            return -5;
        }
        return world.last[person] += days;
    }

    private int park(int person) {
        if (out(person, 0, 19)) {
            return -1;
        }
        if (world.permit[person] == null || world.bicycles[person] != null || world.pound[person] != null) {
            return -5;
        }
        int shed = world.permit[person];
        for (int rack = 0; rack < 8; rack++) {
            if (!world.closed.get(shed).contains(rack) && world.in(shed, rack) == null) {
                Bicycle bicycle = new Bicycle();
                bicycle.shed = shed;
                bicycle.rack = rack;
                bicycle.parked = world.day;
                world.bicycles[person] = bicycle;
                return rack;
            }
        }
        return -4;
    }

    private int ride(int person) {
        if (out(person, 0, 19)) {
            return -1;
        }
        if (world.bicycles[person] == null) {
            return -5;
        }
        int idle = world.day - world.bicycles[person].parked;
        world.bicycles[person] = null;
        return idle;
    }

    private int answer(int person) {
        if (out(person, 0, 19)) {
            return -1;
        }
        Bicycle bicycle = world.bicycles[person];
        if (bicycle == null) {
            return -5;
        }
        int tags = bicycle.tag == null ? 0 : 1;
        bicycle.tag = null;
        bicycle.parked = world.day;
        return tags;
    }

    private int fetch(int person) {
        if (out(person, 0, 19)) {
            return -1;
        }
        if (world.pound[person] == null) {
            return -5;
        }
        int days = world.day - world.pound[person];
        world.pound[person] = null;
        return days;
    }

    private int sweep(int shed) {
        if (out(shed, 0, 2)) {
            return -1;
        }
        int taken = 0;
        for (int p = 0; p < 20; p++) {
            Bicycle bicycle = world.bicycles[p];
            if (bicycle == null || bicycle.shed != shed) {
                continue;
            }
            boolean isIdle = world.day - bicycle.parked >= world.settings[1];
            if (bicycle.tag == null && (isIdle || !world.hasPermit(p, shed))) {
                bicycle.tag = world.day;
            }
            if (bicycle.tag != null && world.day - bicycle.tag >= world.settings[2]) {
                world.bicycles[p] = null;
                world.pound[p] = world.day;
                taken++;
            }
        }
        world.taken += taken;
        return taken;
    }

    private int use(int shed, int rack, boolean isInUse) {
        if (out(shed, 0, 2) || out(rack, 0, 7)) {
            return -1;
        }
        List<Integer> closed = world.closed.get(shed);
        if (closed.contains(rack) != isInUse) {
            return -5;
        }
        if (isInUse) {
            closed.remove(Integer.valueOf(rack));
            world.moveUp();
        } else {
            closed.add(rack);
        }
        return 8 - closed.size();
    }

    private int pass(int days) {
        if (out(days, 1, 99)) {
            return -2;
        }
        if (world.day + days > 9999) {
            return -4;
        }
        int before = world.given;
        for (int i = 0; i < days; i++) {
            world.beginDay();
        }
        return world.given - before;
    }

    private int run() {
        if (fault() != -6) {
            return -3;
        }
        int deeds = 0;
        for (String deed : pad.toString().split(";")) {
            Matcher m = DEED.matcher(deed);
            if (!m.matches()) {
                throw new IllegalStateException("no deed: " + deed);
            }
            int answer;
            if (m.group(1) != null) {
                answer = ask(m.group(1).charAt(0) - 'A', Integer.parseInt(m.group(2)), Integer.parseInt(m.group(3)));
            } else if (m.group(4) != null) {
                int person = m.group(4).charAt(0) - 'A';
                answer = switch (m.group(5)) {
                    case "p" -> park(person);
                    case "r" -> ride(person);
                    case "a" -> answer(person);
                    default -> fetch(person);
                };
            } else if (m.group(6) != null) {
                answer = sweep(Integer.parseInt(m.group(6)));
            } else {
                answer = pass(Integer.parseInt(m.group(7)));
            }
            deeds += answer >= 0 ? 1 : 0;
        }
        pad.setLength(0);
        return deeds;
    }

    private int restore(int slot) {
        if (out(slot, 0, 1)) {
            return -2;
        }
        if (slots[slot] == null) {
            return -5;
        }
        world = slots[slot].copy();
        return world.day;
    }

    private int person(int person, int what) {
        if (out(person, 0, 19)) {
            return -1;
        }
        Bicycle b = world.bicycles[person];
        return switch (what) {
            case 0 -> world.permit[person] == null ? -6 : world.permit[person];
            case 1 -> world.permit[person] == null ? -6 : world.last[person];
            case 2 -> (world.waits(person, 0) ? 1 : 0) + (world.waits(person, 1) ? 2 : 0) + (world.waits(person, 2) ? 4 : 0);
            case 3 -> b == null ? -6 : b.shed;
            case 4 -> b == null ? -6 : b.rack;
            case 5 -> b == null ? -6 : world.day - b.parked;
            case 6 -> b == null || b.tag == null ? -6 : b.tag;
            case 7 -> world.pound[person] == null ? -6 : world.day - world.pound[person];
            case 8 -> world.sold[person];
            default -> -2;
        };
    }

    private int shed(int shed, int what) {
        if (out(shed, 0, 2)) {
            return -1;
        }
        int set = 0;
        switch (what) {
            case 0:
                for (int rack = 0; rack < 8; rack++) {
                    set |= world.closed.get(shed).contains(rack) ? 0 : 1 << rack;
                }
                return set;
            case 1:
                return world.toGive(shed);
            case 2:
                return world.givenOf(shed);
            case 3:
                return world.lists.get(shed).size();
            case 4:
            case 5:
            case 6:
                for (int p = 0; p < 20; p++) {
                    Bicycle b = world.bicycles[p];
                    if (b != null && b.shed == shed) {
                        boolean counts = what == 4 || (what == 5 ? b.tag != null : !world.hasPermit(p, shed));
                        set |= counts ? 1 << b.rack : 0;
                    }
                }
                return set;
            default:
                return -2;
        }
    }

    private int waiting(int shed, int place, int what) {
        if (out(shed, 0, 2) || out(place, 0, world.lists.get(shed).size() - 1)) {
            return -1;
        }
        Ask ask = world.lists.get(shed).get(place);
        return switch (what) {
            case 0 -> ask.person;
            case 1 -> ask.days;
            case 2 -> ask.day;
            default -> -2;
        };
    }

    private int count(int what) {
        if (what >= 0 && what <= 3) {
            return world.settings[what];
        }
        int n = 0;
        for (int p = 0; p < 20; p++) {
            Bicycle b = world.bicycles[p];
            n += switch (what) {
                case 5 -> world.permit[p] != null ? 1 : 0;
                case 6 -> world.waits(p) ? 1 : 0;
                case 7 -> b != null ? 1 : 0;
                case 8 -> b != null && b.tag != null ? 1 : 0;
                case 9 -> world.pound[p] != null ? 1 : 0;
                case 10 -> world.sold[p];
                default -> 0;
            };
        }
        return switch (what) {
            case 4 -> world.day;
            case 5, 6, 7, 8, 9, 10 -> n;
            case 11 -> world.taken;
            case 12 -> world.given;
            case 13 -> pad.length();
            case 14 -> history.size();
            default -> -2;
        };
    }

    private int daysUntil(int person) {
        World old = world;
        world = world.copy();
        int found = -6;
        for (int i = 1; i <= 300 && found == -6; i++) {
            world.beginDay();
            found = world.permit[person] != null ? i : -6;
        }
        world = old;
        return found;
    }

    private int untilPermit(int person) {
        if (out(person, 0, 19)) {
            return -1;
        }
        return world.waits(person) ? daysUntil(person) : -5;
    }

    private int bestShed(int person, int days, int what) {
        if (out(person, 0, 19)) {
            return -1;
        }
        if (out(days, 1, 99) || out(what, 0, 1)) {
            return -2;
        }
        if (world.permit[person] != null || world.waits(person)) {
            return -5;
        }
        World old = world;
        int best = -6;
        int least = Integer.MAX_VALUE;
        for (int shed = 2; shed >= 0; shed--) {
            world = old.copy();
            int until = ask(person, shed, days) == 0 ? 0 : daysUntil(person);
            if (until != -6 && until <= least) {
                least = until;
                best = shed;
            }
        }
        world = old;
        return best == -6 || what == 0 ? best : least;
    }

    private int ifSwept(int shed, int days) {
        if (out(shed, 0, 2)) {
            return -1;
        }
        if (out(days, 0, 99)) {
            return -2;
        }
        World old = world;
        world = world.copy();
        for (int i = 0; i < days; i++) {
            world.beginDay();
        }
        int taken = sweep(shed);
        world = old;
        return taken;
    }

    private int put(long characters) {
        StringBuilder text = new StringBuilder();
        boolean isOver = false;
        for (int shift = 56; shift >= 0; shift -= 8) {
            int code = (int) (characters >> shift & 255);
            if (code == 0 && text.length() == 0) {
                continue;
            }
            isOver |= code < 33 || code > 126;
            text.append((char) code);
        }
        if (isOver || text.length() == 0) {
            return -2;
        }
        if (pad.length() + text.length() > 60) {
            return -4;
        }
        pad.append(text);
        return pad.length();
    }

    private int wipe() {
        int length = pad.length();
        pad.setLength(0);
        return length;
    }

    /** The longest beginning of the pad behind which some text can stand: found by trying all short ends. */
    private int fault() {
        String text = pad.toString();
        if (isText(text)) {
            return -6;
        }
        int good = text.length();
        while (!canGoOn(text.substring(0, good))) {
            good--;
        }
        return good;
    }

    private static boolean isText(String text) {
        return text.matches("(" + DEED.pattern() + ")(;(" + DEED.pattern() + "))*");
    }

    private static boolean canGoOn(String text) {
        for (String end : List.of("", "1", ":1", "0:1", "?0:1", "s1", "p")) {
            if (isText(text + end)) {
                return true;
            }
        }
        return false;
    }

    private int undo() {
        if (history.isEmpty()) {
            return -5;
        }
        world = history.removeLast();
        return history.size();
    }

    private int save(int slot) {
        if (out(slot, 0, 1)) {
            return -2;
        }
        slots[slot] = world.copy();
        return world.day;
    }
}
