import java.util.ArrayDeque;
import java.util.ArrayList;
import java.util.Comparator;
import java.util.Deque;
import java.util.List;
import java.util.NoSuchElementException;
import java.util.function.IntSupplier;
import java.util.function.ToIntFunction;
import java.util.regex.Matcher;
import java.util.regex.Pattern;
import java.util.stream.IntStream;

/**
 * The document told a second time, with the whole Java library and by other ways than the program's: what is foretold
 * is tried on a copy of the whole house, the order of a measure is sorted, and a fault is looked for by a pattern.
 */
final class Model {
    private static final Pattern ONE =
        Pattern.compile("[fwa]\\d|[botlnsx]\\d\\d?|d|h\\d\\d?/\\d\\d");
    private static final Pattern TEXT = Pattern.compile("(" + ONE + ")(;(" + ONE + "))*");
    private static final int LONG_AFTER_ALL_LOGS = 50;

    private static final class Fish implements Cloneable {
        final int weight;
        int salt;
        boolean isInBrine;
        int rack = -1;
        int hook = -1;
        int down;
        boolean isTurnedDown;
        int[] smoke = new int[2];
        int[] charred = new int[2];

        Fish(int weight) {
            this.weight = weight;
        }

        Fish copy() {
            try {
                Fish other = (Fish) clone();
                other.smoke = smoke.clone();
                other.charred = charred.clone();
                return other;
            } catch (CloneNotSupportedException never) {
                throw new AssertionError(never);
            }
        }

        int place() {
            return rack >= 0 ? 2 : isInBrine ? 1 : 0;
        }

        int bears() {
            return 2 + salt / 3;
        }

        int gap() {
            return 1 + weight / 3;
        }

        boolean isBurnt() {
            return charred[0] >= 9 || charred[1] >= 9;
        }

        int lacks() {
            return Math.max(5 + weight - smoke[0], 0) + Math.max(5 + weight - smoke[1], 0);
        }

        boolean isDone() {
            return !isBurnt() && lacks() == 0;
        }

        int price() {
            return salt > 6 ? 3 * weight : 3 * weight + salt;
        }
    }

    private static final class State {
        final List<Fish> fish = new ArrayList<>();
        int logs;
        int wood;
        int hours;
        int days;
        int sold;
        int earned;
        int thrown;

        State copy() {
            State other = new State();
            fish.forEach(one -> other.fish.add(one.copy()));
            other.logs = logs;
            other.wood = wood;
            other.hours = hours;
            other.days = days;
            other.sold = sold;
            other.earned = earned;
            other.thrown = thrown;
            return other;
        }

        int heat(int rack) {
            return logs < rack ? 0 : logs - rack;
        }

        int[] distances(Fish one, int rack, int hook) {
            return fish.stream().filter(other -> other != one && other.rack == rack)
                .mapToInt(other -> Math.abs(other.hook - hook)).toArray();
        }

        boolean isCrowded(Fish one) {
            return one.rack >= 0
                && IntStream.of(distances(one, one.rack, one.hook)).anyMatch(far -> far < one.gap());
        }

        void passHour() {
            for (Fish one : fish) {
                if (one.rack < 0) {
                    continue;
                }
                int heat = heat(one.rack);
                int smoke = logs == 0 ? 0 : heat + wood;
                smoke = isCrowded(one) ? smoke / 2 : smoke;
                one.smoke[one.down] = Math.min(40, one.smoke[one.down] + smoke);
                if (heat > one.bears() && !one.isTurnedDown) {
                    one.charred[one.down] = Math.min(9, one.charred[one.down] + heat - one.bears());
                }
                one.isTurnedDown = false;
            }
            logs -= logs > 0 ? 1 : 0;
            hours++;
        }
    }

    private State state = new State();
    private State snapshot;
    private final Deque<State> history = new ArrayDeque<>();
    private String buffer = "";
    private String written = "";
    private int fault = -1;
    private int[] reason;
    private int command;

    // ---- changes

    private int change(IntSupplier made) {
        State before = state.copy();
        try {
            int answer = made.getAsInt();
            history.push(before);
            if (history.size() > 8) {
                history.removeLast();
            }
            return answer;
        } catch (UnsupportedOperationException refused) {
            state = before;
            throw refused;
        }
    }

    private void refuseIf(boolean applies, int number, int detail) {
        if (applies) {
            reason = new int[] {number, detail, command};
            throw new UnsupportedOperationException();
        }
    }

    private Fish asked(int fish) {
        refuseIf(fish < 0 || fish >= state.fish.size(), 3, state.fish.size());
        return state.fish.get(fish);
    }

    private int howMany(ToIntFunction<Fish> counted) {
        return state.fish.stream().mapToInt(counted).sum();
    }

    private int doFish(int weight) {
        refuseIf(weight < 1 || weight > 9, 1, 0);
        refuseIf(state.fish.size() == 12, 2, 12);
        state.fish.add(new Fish(weight));
        return state.fish.size() - 1;
    }

    private int doBrine(int fish) {
        Fish one = asked(fish);
        refuseIf(one.place() != 0, 4, one.place());
        one.isInBrine = true;
        return howMany(other -> other.isInBrine ? 1 : 0);
    }

    private int doOut(int fish) {
        Fish one = asked(fish);
        refuseIf(one.place() == 0, 5, fish);
        one.isInBrine = false;
        one.rack = -1;
        one.hook = -1;
        one.isTurnedDown = false;
        return one.salt;
    }

    private int doHang(int fish, int rack, int hook) {
        refuseIf(rack < 0 || rack > 3 || hook < 0 || hook > 9, 1, 0);
        Fish one = asked(fish);
        refuseIf(one.place() != 0, 4, one.place());
        for (int other = 0; other < state.fish.size(); other++) {
            refuseIf(state.fish.get(other).rack == rack && state.fish.get(other).hook == hook, 6, other);
        }
        one.rack = rack;
        one.hook = hook;
        return howMany(other -> other.rack == rack ? 1 : 0);
    }

    private int doTurn(int fish) {
        Fish one = asked(fish);
        refuseIf(one.place() != 2, 7, one.place());
        one.down = one.down == 0 ? 1 : 0;
        one.isTurnedDown = true;
        return one.down;
    }

    private int doTurnAll(int rack) {
        refuseIf(rack < 0 || rack > 3, 1, 0);
        int[] there = IntStream.range(0, state.fish.size()).filter(i -> state.fish.get(i).rack == rack).toArray();
        refuseIf(there.length == 0, 8, 0);
        IntStream.of(there).forEach(this::doTurn);
        return there.length;
    }

    private int doLogs(int more) {
        refuseIf(more < 1 || more > 12, 1, 0);
        refuseIf(state.logs + more > 12, 2, 12);
        return state.logs += more;
    }

    private int doWood(int wood) {
        refuseIf(wood < 0 || wood > 3, 1, 0);
        refuseIf(wood == state.wood, 9, wood);
        int earlier = state.wood;
        state.wood = wood;
        return earlier;
    }

    private int doDay() {
        refuseIf(state.fish.stream().noneMatch(one -> one.isInBrine), 8, 0);
        state.fish.stream().filter(one -> one.isInBrine).forEach(one -> one.salt = Math.min(9, one.salt + 2));
        state.days++;
        return howMany(one -> one.isInBrine ? one.salt : 0);
    }

    private int doHours(int many) {
        refuseIf(many < 1 || many > 24, 1, 0);
        for (int hour = 0; hour < many; hour++) {
            state.passHour();
        }
        return howMany(one -> one.isBurnt() ? 1 : 0);
    }

    private int doSell(int fish) {
        Fish one = asked(fish);
        refuseIf(one.isBurnt(), 10, 100);
        refuseIf(!one.isDone(), 10, one.lacks());
        state.fish.remove(fish);
        state.sold++;
        state.earned += one.price();
        return one.price();
    }

    private int doThrowAway(int fish) {
        Fish one = asked(fish);
        state.fish.remove(fish);
        state.thrown++;
        return one.weight;
    }

    public int fish(int weight) {
        return change(() -> doFish(weight));
    }

    public int brine(int fish) {
        return change(() -> doBrine(fish));
    }

    public int out(int fish) {
        return change(() -> doOut(fish));
    }

    public int hang(int fish, int rack, int hook) {
        return change(() -> doHang(fish, rack, hook));
    }

    public int turn(int fish) {
        return change(() -> doTurn(fish));
    }

    public int turnAll(int rack) {
        return change(() -> doTurnAll(rack));
    }

    public int logs(int more) {
        return change(() -> doLogs(more));
    }

    public int wood(int wood) {
        return change(() -> doWood(wood));
    }

    public int day() {
        return change(this::doDay);
    }

    public int hours(int many) {
        return change(() -> doHours(many));
    }

    public int sell(int fish) {
        return change(() -> doSell(fish));
    }

    public int throwAway(int fish) {
        return change(() -> doThrowAway(fish));
    }

    // ---- questions

    private Fish shown(int fish) {
        within(fish >= 0 && fish < state.fish.size());
        return state.fish.get(fish);
    }

    private static void within(boolean isThere) {
        if (!isThere) {
            throw new IndexOutOfBoundsException();
        }
    }

    private static void argument(boolean isRight) {
        if (!isRight) {
            throw new IllegalArgumentException();
        }
    }

    public int fishOf(int fish, int what) {
        Fish one = shown(fish);
        argument(what >= 0 && what <= 8);
        return new int[] {one.weight, one.salt, one.place(), one.rack, one.hook, one.down, one.isTurnedDown ? 1 : 0,
            one.bears(), one.gap()}[what];
    }

    public int sideOf(int fish, int side, boolean isChar) {
        Fish one = shown(fish);
        argument(side == 0 || side == 1);
        return (isChar ? one.charred : one.smoke)[side];
    }

    public int at(int rack, int hook) {
        within(rack >= 0 && rack <= 3 && hook >= 0 && hook <= 9);
        return IntStream.range(0, state.fish.size())
            .filter(i -> state.fish.get(i).rack == rack && state.fish.get(i).hook == hook).findFirst().orElseThrow();
    }

    public int heat(int rack) {
        within(rack >= 0 && rack <= 3);
        return state.heat(rack);
    }

    public int nearest(int fish) {
        Fish one = shown(fish);
        if (one.rack < 0) {
            throw new NoSuchElementException();
        }
        return IntStream.of(state.distances(one, one.rack, one.hook)).min().orElseThrow();
    }

    public boolean isCrowded(int fish) {
        return state.isCrowded(shown(fish));
    }

    public boolean isDone(int fish) {
        return shown(fish).isDone();
    }

    public int wouldChar(int fish, int many) {
        int side = shown(fish).down;
        argument(many >= 0 && many <= 24);
        State tried = state.copy();
        for (int hour = 0; hour < many; hour++) {
            tried.passHour();
        }
        return tried.fish.get(fish).charred[side];
    }

    public int wouldCharAgain(int fish, int many) {
        return wouldChar(fish, many);
    }

    public int burnsIn(int fish) {
        shown(fish);
        State tried = state.copy();
        for (int hour = 0; hour < LONG_AFTER_ALL_LOGS; hour++) {
            if (tried.fish.get(fish).isBurnt()) {
                return hour;
            }
            tried.passHour();
        }
        throw new NoSuchElementException();
    }

    public int doneIn(int fish) {
        shown(fish);
        State tried = state.copy();
        Fish one = tried.fish.get(fish);
        for (int hour = 0; hour < LONG_AFTER_ALL_LOGS; hour++) {
            if (one.isDone()) {
                return hour;
            }
            one.down = one.rack < 0 ? one.down : 1 - one.down;
            one.isTurnedDown = one.rack >= 0;
            tried.passHour();
        }
        throw new NoSuchElementException();
    }

    public int hottest() {
        State tried = state.copy();
        for (int hour = 0; hour < LONG_AFTER_ALL_LOGS; hour++) {
            tried.passHour();
            for (int fish = 0; fish < state.fish.size(); fish++) {
                if (!state.fish.get(fish).isBurnt() && tried.fish.get(fish).isBurnt()) {
                    return fish;
                }
            }
        }
        throw new NoSuchElementException();
    }

    public int bestHook(int fish, int rack) {
        Fish one = shown(fish);
        within(rack >= 0 && rack <= 3);
        ToIntFunction<Integer> far = hook -> IntStream.of(state.distances(one, rack, hook)).min().orElse(99);
        return IntStream.range(0, 10).boxed().filter(hook -> far.applyAsInt(hook) > 0)
            .sorted(Comparator.comparingInt(far).reversed().thenComparingInt(hook -> hook)).findFirst().orElseThrow();
    }

    public int crowded() {
        return howMany(one -> state.isCrowded(one) ? 1 : 0);
    }

    private static int measured(Fish one, int measure) {
        return new int[] {one.weight, one.salt, one.smoke[0] + one.smoke[1], Math.max(one.charred[0], one.charred[1]),
            one.price()}[measure];
    }

    public int ranked(int measure, int place) {
        argument(measure >= 0 && measure <= 4);
        List<Fish> order = new ArrayList<>(state.fish);
        order.sort((one, other) -> measured(other, measure) - measured(one, measure));
        if (place < 0 || place >= order.size()) {
            throw new NoSuchElementException();
        }
        return state.fish.indexOf(order.get(place));
    }

    // ---- texts

    public int append(char character) {
        if (buffer.length() == 60) {
            throw new IllegalStateException();
        }
        buffer += character;
        return buffer.length();
    }

    /** The end of the longest beginning that some text has, or -1 if the whole is a text. */
    private static int faultOf(String text) {
        if (TEXT.matcher(text).matches()) {
            return -1;
        }
        int good = 0;
        while (good < text.length() && canGoOn(text.substring(0, good + 1))) {
            good++;
        }
        return good;
    }

    private static boolean canGoOn(String beginning) {
        Matcher matcher = TEXT.matcher(beginning);
        return matcher.matches() || matcher.hitEnd();
    }

    public int commands() {
        String text = buffer;
        buffer = "";
        fault = faultOf(text);
        argument(fault < 0);
        String[] all = text.split(";");
        try {
            return change(() -> {
                for (command = 0; command < all.length; command++) {
                    carryOut(all[command].charAt(0), all[command].substring(1));
                }
                return all.length;
            });
        } finally {
            command = 0;
        }
    }

    private void carryOut(char kind, String rest) {
        if (kind == 'd') {
            doDay();
            return;
        }
        if (kind == 'h') {
            String[] parts = rest.split("/");
            doHang(Integer.parseInt(parts[0]), parts[1].charAt(0) - '0', parts[1].charAt(1) - '0');
            return;
        }
        int number = Integer.parseInt(rest);
        switch (kind) {
            case 'f' -> doFish(number);
            case 'b' -> doBrine(number);
            case 'o' -> doOut(number);
            case 't' -> doTurn(number);
            case 'a' -> doTurnAll(number);
            case 'l' -> doLogs(number);
            case 'w' -> doWood(number);
            case 'n' -> doHours(number);
            case 's' -> doSell(number);
            case 'x' -> doThrowAway(number);
            default -> throw new AssertionError(kind);
        }
    }

    public int faultPosition() {
        return fault;
    }

    public int reason(int what) {
        argument(what >= 0 && what <= 2);
        if (reason == null) {
            throw new NoSuchElementException();
        }
        return reason[what];
    }

    // ---- lines and accounts

    public int rack(int rack) {
        within(rack >= 0 && rack <= 3);
        char[] line = "..........".toCharArray();
        for (int fish = 0; fish < state.fish.size(); fish++) {
            Fish one = state.fish.get(fish);
            if (one.rack == rack) {
                line[one.hook] = (one.isBurnt() ? "ABCDEFGHIJKL" : "abcdefghijkl").charAt(fish);
            }
        }
        written = new String(line);
        return 10;
    }

    public int line(int fish) {
        Fish one = shown(fish);
        written = one.weight + "*" + one.salt;
        for (int side = 0; side < 2; side++) {
            written += "/" + one.smoke[side] + "~" + one.charred[side] + (side == one.down ? "!" : "");
        }
        return written.length();
    }

    public char character(int index) {
        within(index >= 0 && index < written.length());
        return written.charAt(index);
    }

    private void needSome() {
        if (state.fish.isEmpty()) {
            throw new ArithmeticException();
        }
    }

    public int meanSmoke() {
        needSome();
        return Float.floatToIntBits((float) howMany(one -> one.smoke[0] + one.smoke[1]) / (float) (2 * state.fish.size()));
    }

    public double burntShare() {
        needSome();
        return (double) howMany(one -> one.isBurnt() ? 1 : 0) / (double) state.fish.size();
    }

    public int account(int what) {
        argument(what >= 0 && what <= 11);
        return new int[] {state.fish.size(), howMany(one -> one.isInBrine ? 1 : 0), howMany(one -> one.rack >= 0 ? 1 : 0),
            state.logs, state.wood, state.hours, state.days, state.sold, state.earned, state.thrown, history.size(),
            buffer.length()}[what];
    }

    public int undo() {
        if (history.isEmpty()) {
            throw new IllegalStateException();
        }
        state = history.pop();
        return history.size();
    }

    public int save() {
        snapshot = state.copy();
        return state.fish.size();
    }

    public int restore() {
        if (snapshot == null) {
            throw new IllegalStateException();
        }
        state = snapshot.copy();
        history.clear();
        return state.fish.size();
    }
}
