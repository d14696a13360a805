import java.util.ArrayDeque;
import java.util.Map;
import java.util.NoSuchElementException;
import java.util.TreeMap;
import java.util.TreeSet;
import java.util.regex.Matcher;
import java.util.regex.Pattern;

/** The document told a second time, in another way, to compare the class with. */
final class Model {
    private static final Pattern ORDER =
            Pattern.compile("(?:([pdl])([0-9]{1,2})|([rt])([0-9]{1,2}),([0-9]{1,2}));");
    private static final Pattern BEGINNING =
            Pattern.compile("(?:[pdl](?:[0-9]{1,2};?)?|[rt](?:[0-9]{1,2}(?:,(?:[0-9]{1,2};?)?)?)?)?");

    private static final class State {
        final TreeSet<Integer> open = new TreeSet<>();
        final TreeSet<Integer> locked = new TreeSet<>();
        final TreeSet<Integer> skipped = new TreeSet<>();
        final Map<Integer, Integer> things = new TreeMap<>();
        final Map<Integer, Integer> turns = new TreeMap<>();
        final Map<Integer, Integer> times = new TreeMap<>();

        State copy() {
            State copy = new State();
            copy.open.addAll(open);
            copy.locked.addAll(locked);
            copy.skipped.addAll(skipped);
            copy.things.putAll(things);
            copy.turns.putAll(turns);
            copy.times.putAll(times);
            return copy;
        }
    }

    private State state = new State();
    private State kept = null;
    private final ArrayDeque<State> history = new ArrayDeque<>();
    private String text = "";
    private int orders;

    private static void argument(boolean fine) {
        if (!fine) {
            throw new IllegalArgumentException();
        }
    }

    private static void state(boolean fine) {
        if (!fine) {
            throw new IllegalStateException();
        }
    }

    private static void element(boolean fine) {
        if (!fine) {
            throw new NoSuchElementException();
        }
    }

    private static boolean inRow(int number) {
        return 1 <= number && number <= 48;
    }

    private static boolean kindThere(int kind) {
        return kind == 0 || kind == 1;
    }

    private void record() {
        history.addLast(state.copy());
        if (history.size() == 5) {
            history.removeFirst();
        }
    }

    private static void flip(TreeSet<Integer> set, int number) {
        if (!set.remove(number)) {
            set.add(number);
        }
    }

    private static void make(State s, int number) {
        s.times.merge(number, 1, Integer::sum);
        for (int door = 1; door <= 48; door++) {
            if (door % number == 0 && !s.locked.contains(door)) {
                flip(s.open, door);
                s.turns.merge(door, 1, Integer::sum);
            }
        }
    }

    private static int makeRow(State s, int number, int to) {
        int made = 0;
        for (int next = number; next <= to; next++) {
            if (!s.skipped.contains(next)) {
                make(s, next);
                made++;
            }
        }
        return made;
    }

    private static int count(State s, int kind) {
        return (int) s.things.values().stream().filter(thing -> thing == kind).count();
    }

    private static long set(Iterable<Integer> numbers) {
        long set = 0;
        for (int number : numbers) {
            set |= 1L << number;
        }
        return set;
    }

    Object pass(int number) {
        argument(inRow(number));
        record();
        make(state, number);
        return state.open.size();
    }

    Object passRow(int number, int to) {
        argument(inRow(number) && inRow(to) && number <= to);
        record();
        return makeRow(state, number, to);
    }

    Object turnDoor(int door) {
        argument(inRow(door));
        state(!state.locked.contains(door));
        record();
        flip(state.open, door);
        state.turns.merge(door, 1, Integer::sum);
        return state.open.contains(door);
    }

    Object turnLock(int door) {
        argument(inRow(door));
        record();
        flip(state.locked, door);
        return state.locked.contains(door);
    }

    Object turnSkip(int number) {
        argument(inRow(number));
        record();
        flip(state.skipped, number);
        return state.skipped.contains(number);
    }

    Object store(int door, int kind) {
        state(whyNot(door, kind).equals(0));
        record();
        state.things.put(door, kind);
        return count(state, kind);
    }

    Object takeOut(int door) {
        argument(inRow(door));
        state(state.open.contains(door) && state.things.containsKey(door));
        record();
        return state.things.remove(door);
    }

    Object isOpen(int door) {
        argument(inRow(door));
        return state.open.contains(door);
    }

    Object isLocked(int door) {
        argument(inRow(door));
        return state.locked.contains(door);
    }

    Object turnsOf(int door) {
        argument(inRow(door));
        return state.turns.getOrDefault(door, 0);
    }

    Object isSkipped(int number) {
        argument(inRow(number));
        return state.skipped.contains(number);
    }

    Object timesOf(int number) {
        argument(inRow(number));
        return state.times.getOrDefault(number, 0);
    }

    Object divisorsOf(int number) {
        argument(inRow(number));
        int divisors = 0;
        for (int one = 1; one * one <= number; one++) {
            if (number % one == 0) {
                divisors += one * one == number ? 1 : 2;
            }
        }
        return divisors;
    }

    Object openDoors() {
        return state.open.size();
    }

    Object openSet() {
        return set(state.open);
    }

    Object nextOpen(int door) {
        argument(inRow(door));
        element(state.open.ceiling(door) != null);
        return state.open.ceiling(door);
    }

    /** Tried out by making the passes: each door, the lowest first, has to be closed by its own pass. */
    Object closingPasses() {
        State s = state.copy();
        s.locked.clear();
        TreeSet<Integer> passes = new TreeSet<>();
        while (!s.open.isEmpty()) {
            passes.add(s.open.first());
            make(s, s.open.first());
        }
        return set(passes);
    }

    Object passesToClose() {
        return Long.bitCount((Long) closingPasses());
    }

    Object wouldBeOpen(int number, int to) {
        argument(inRow(number) && inRow(to) && number <= to);
        State s = state.copy();
        makeRow(s, number, to);
        return s.open.size();
    }

    Object bestPass() {
        int best = 0;
        int fewest = 99;
        for (int number = 1; number <= 48; number++) {
            State s = state.copy();
            make(s, number);
            if (s.open.size() < fewest) {
                fewest = s.open.size();
                best = number;
            }
        }
        return best;
    }

    Object whyNot(int door, int kind) {
        argument(inRow(door) && kindThere(kind));
        if (!state.open.contains(door)) {
            return 1;
        }
        if (state.things.containsKey(door)) {
            return 2;
        }
        return kind == 1 && door < 17 || kind == 0 && door > 16 && door < 33 ? 3 : 0;
    }

    Object thingAt(int door) {
        argument(inRow(door));
        element(state.things.containsKey(door));
        return state.things.get(door);
    }

    Object thingsOf(int kind) {
        argument(kindThere(kind));
        return count(state, kind);
    }

    Object shutAway() {
        return (int) state.things.keySet().stream().filter(door -> !state.open.contains(door)).count();
    }

    Object share() {
        return (float) state.open.size() / (float) 48;
    }

    Object shareBits() {
        return Float.floatToIntBits((float) state.open.size() / (float) 48);
    }

    Object sumOfParts() {
        float sum = 0;
        for (int door : state.open) {
            sum = sum + (float) 1 / (float) door;
        }
        return sum;
    }

    Object sumBits() {
        double sum = 0;
        for (int door : state.open) {
            sum = sum + (double) 1 / (double) door;
        }
        return Double.doubleToLongBits(sum);
    }

    Object turnsInAll() {
        return state.turns.values().stream().mapToInt(turns -> turns).sum();
    }

    Object keep() {
        kept = state.copy();
        return state.open.size();
    }

    Object goBack() {
        state(kept != null);
        record();
        state = kept.copy();
        return state.open.size();
    }

    Object states() {
        return history.size();
    }

    Object undo() {
        state(!history.isEmpty());
        state = history.removeLast();
        return history.size();
    }

    Object type(int character) {
        argument(32 <= character && character <= 126);
        state(text.length() < 60);
        text += (char) character;
        return text.length();
    }

    Object clearText() {
        int length = text.length();
        text = "";
        return length;
    }

    Object fault(int which) {
        int[] fault = tryOut(new Model());
        element(fault != null);
        return fault[which];
    }

    Object play() {
        Model played = new Model();
        state(tryOut(played) == null);
        record();
        state = played.state;
        return played.orders;
    }

    /** Plays the text on another model; answers the fault or null. */
    private int[] tryOut(Model other) {
        other.state = state.copy();
        Matcher order = ORDER.matcher(text);
        int at = 0;
        while (at < text.length()) {
            if (!order.find(at) || order.start() != at) {
                return new int[] {at, 1, beginning(text.substring(at))};
            }
            int cause = other.cause(order);
            if (cause != 0) {
                return new int[] {at, 2, cause};
            }
            other.orders++;
            at = order.end();
        }
        return null;
    }

    private static int beginning(String rest) {
        int length = 0;
        while (length < rest.length() && BEGINNING.matcher(rest.substring(0, length + 1)).matches()) {
            length++;
        }
        return length;
    }

    private int cause(Matcher order) {
        boolean one = order.group(1) != null;
        int first = Integer.parseInt(order.group(one ? 2 : 4));
        int second = one ? 0 : Integer.parseInt(order.group(5));
        try {
            switch (one ? order.group(1) : order.group(3)) {
                case "p" -> pass(first);
                case "d" -> turnDoor(first);
                case "l" -> turnLock(first);
                case "r" -> passRow(first, second);
                default -> store(first, second);
            }
        } catch (IllegalArgumentException e) {
            return 1;
        } catch (IllegalStateException e) {
            return 2;
        }
        return 0;
    }
}
