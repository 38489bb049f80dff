import java.util.NoSuchElementException;

/**
 * A smoke house where fish hang over a fire, as ../shared/DOC.md promises it.
 *
 * All rows are made in the constructors and used again, as the room of a run is small and never
 * given back. A change is first tried on the house as it is; the house before it is kept aside, for
 * undo and for a text of commands of which one is refused.
 */
public final class SmokeRacks {
    private static final int MOST_FISH = 12;
    private static final int MOST_WEIGHT = 9;
    private static final int MOST_SALT = 9;
    private static final int MOST_SMOKE = 40;
    private static final int MOST_CHAR = 9;
    private static final int MOST_LOGS = 12;
    private static final int MOST_HOURS = 24;
    private static final int MOST_SIGNS = 60;
    private static final int MOST_UNDONE = 8;
    private static final int LONGEST_LINE = 14;

    private static final int RACKS = 4;
    private static final int HOOKS = 10;
    private static final int WOODS = 4;
    private static final int SIDES = 2;
    private static final int MEASURES = 5;
    private static final int FISH_NUMBERS = 9;
    private static final int REASON_NUMBERS = 3;

    private static final int SALT_A_DAY = 2;
    private static final int LEAST_HEAT_BORNE = 2;
    private static final int LEAST_SMOKE_WANTED = 5;
    private static final int MOST_SALT_PAID = 6;
    private static final int LACK_OF_BURNT = 100;

    private static final int OUTSIDE = 0;
    private static final int IN_BRINE = 1;
    private static final int ON_HOOK = 2;

    private static final int OUT_OF_RANGE = 1;
    private static final int TOO_MANY = 2;
    private static final int NO_SUCH_FISH = 3;
    private static final int NOT_OUTSIDE = 4;
    private static final int OUTSIDE_ALREADY = 5;
    private static final int HOOK_TAKEN = 6;
    private static final int NOT_HANGING = 7;
    private static final int NOTHING_THERE = 8;
    private static final int SO_ALREADY = 9;
    private static final int NOT_DONE = 10;

    /** No fish, rack, hook or fault: all of these are numbered from 0. */
    private static final int NONE = -1;
    private static final int NEVER = -1;
    /** The answer of a refused change; those that succeed answer 0 or more. */
    private static final int REFUSED = -1;
    /** Farther than any two hooks of a rack are apart. */
    private static final int FAR = HOOKS;

    private final House house;
    private final House before;
    private final House snapshot;
    private final History history;
    private final Refusal refusal;
    private final Work work;
    private final Forecast forecast;
    private final Script script;
    private final Line written;
    private boolean hasSnapshot;

    public SmokeRacks() {
        house = new House();
        before = new House();
        snapshot = new House();
        history = new History();
        refusal = new Refusal();
        work = new Work(house, refusal);
        forecast = new Forecast(house);
        script = new Script();
        written = new Line();
    }

    public int fish(int weight) throws UnsupportedOperationException {
        before.copyFrom(house);
        return settled(work.letCome(weight));
    }

    public int brine(int fish) throws UnsupportedOperationException {
        before.copyFrom(house);
        return settled(work.layIntoBrine(fish));
    }

    public int out(int fish) throws UnsupportedOperationException {
        before.copyFrom(house);
        return settled(work.takeOut(fish));
    }

    public int hang(int fish, int rack, int hook) throws UnsupportedOperationException {
        before.copyFrom(house);
        return settled(work.hangUp(fish, rack, hook));
    }

    public int turn(int fish) throws UnsupportedOperationException {
        before.copyFrom(house);
        return settled(work.turnOver(fish));
    }

    public int turnAll(int rack) throws UnsupportedOperationException {
        before.copyFrom(house);
        return settled(work.turnRack(rack));
    }

    public int logs(int more) throws UnsupportedOperationException {
        before.copyFrom(house);
        return settled(work.layLogs(more));
    }

    public int wood(int wood) throws UnsupportedOperationException {
        before.copyFrom(house);
        return settled(work.tellWood(wood));
    }

    public int day() throws UnsupportedOperationException {
        before.copyFrom(house);
        return settled(work.passDay());
    }

    public int hours(int many) throws UnsupportedOperationException {
        before.copyFrom(house);
        return settled(work.passHours(many));
    }

    public int sell(int fish) throws UnsupportedOperationException {
        before.copyFrom(house);
        return settled(work.sellOff(fish));
    }

    public int throwAway(int fish) throws UnsupportedOperationException {
        before.copyFrom(house);
        return settled(work.discard(fish));
    }

    public int fishOf(int fish, int what) throws IndexOutOfBoundsException, IllegalArgumentException {
        needFish(fish);
        if (what < 0 || what >= FISH_NUMBERS) {
            throw new IllegalArgumentException();
        }
        return house.fishAt(fish).number(what);
    }

    public int sideOf(int fish, int side, boolean isChar) throws IndexOutOfBoundsException, IllegalArgumentException {
        needFish(fish);
        if (side < 0 || side >= SIDES) {
            throw new IllegalArgumentException();
        }
        Side told = house.fishAt(fish).side(side);
        return isChar ? told.charred : told.smoke;
    }

    public int at(int rack, int hook) throws IndexOutOfBoundsException, NoSuchElementException {
        if (!isRack(rack) || !isHook(hook)) {
            throw new IndexOutOfBoundsException();
        }
        return found(house.fishOn(rack, hook));
    }

    public int heat(int rack) throws IndexOutOfBoundsException {
        needRack(rack);
        return heatBy(house.logs, rack);
    }

    public int nearest(int fish) throws IndexOutOfBoundsException, NoSuchElementException {
        needFish(fish);
        int far = house.nearestTo(fish);
        if (far == FAR) {
            throw new NoSuchElementException();
        }
        return far;
    }

    public boolean isCrowded(int fish) throws IndexOutOfBoundsException {
        needFish(fish);
        return house.hangsTooNear(fish);
    }

    public boolean isDone(int fish) throws IndexOutOfBoundsException {
        needFish(fish);
        return house.fishAt(fish).isReady();
    }

    public int wouldChar(int fish, int many) throws IndexOutOfBoundsException, IllegalArgumentException {
        needFish(fish);
        needForecastHours(many);
        return forecast.charHourByHour(fish, many);
    }

    public int wouldCharAgain(int fish, int many) throws IndexOutOfBoundsException, IllegalArgumentException {
        needFish(fish);
        needForecastHours(many);
        return forecast.charAtOnce(fish, many);
    }

    public int burnsIn(int fish) throws IndexOutOfBoundsException, NoSuchElementException {
        needFish(fish);
        return found(forecast.hoursUntilBurnt(fish));
    }

    public int doneIn(int fish) throws IndexOutOfBoundsException, NoSuchElementException {
        needFish(fish);
        return found(forecast.hoursUntilReady(fish));
    }

    public int hottest() throws NoSuchElementException {
        return found(forecast.firstToBurn());
    }

    public int bestHook(int fish, int rack) throws IndexOutOfBoundsException, NoSuchElementException {
        needFish(fish);
        needRack(rack);
        return found(house.farthestHook(fish, rack));
    }

    public int crowded() {
        int many = 0;
        for (int i = 0; i < house.count; i++) {
            many += house.hangsTooNear(i) ? 1 : 0;
        }
        return many;
    }

    public int ranked(int measure, int place) throws IllegalArgumentException, NoSuchElementException {
        if (measure < 0 || measure >= MEASURES) {
            throw new IllegalArgumentException();
        }
        return found(house.fishAtPlace(measure, place));
    }

    public int append(char character) throws IllegalStateException {
        if (script.length >= MOST_SIGNS) {
            throw new IllegalStateException();
        }
        script.add(character);
        return script.length;
    }

    public int commands() throws IllegalArgumentException, UnsupportedOperationException {
        script.examine();
        if (script.fault != NONE) {
            script.empty();
            throw new IllegalArgumentException();
        }
        before.copyFrom(house);
        script.rewind();
        int answer = 0;
        for (int i = 0; i < script.commandCount && answer != REFUSED; i++) {
            script.readCommand();
            script.pass();
            refusal.current = i;
            answer = work.carryOut(script);
        }
        refusal.current = 0;
        script.empty();
        if (answer == REFUSED) {
            house.copyFrom(before);
            throw new UnsupportedOperationException();
        }
        history.keep(before);
        return script.commandCount;
    }

    public int faultPosition() {
        return script.fault;
    }

    public int reason(int what) throws IllegalArgumentException, NoSuchElementException {
        if (what < 0 || what >= REASON_NUMBERS) {
            throw new IllegalArgumentException();
        }
        if (!refusal.isKept) {
            throw new NoSuchElementException();
        }
        return refusal.number(what);
    }

    public int rack(int rack) throws IndexOutOfBoundsException {
        needRack(rack);
        written.empty();
        for (int hook = 0; hook < HOOKS; hook++) {
            written.add(house.letterOn(rack, hook));
        }
        return written.length;
    }

    public int line(int fish) throws IndexOutOfBoundsException {
        needFish(fish);
        Fish told = house.fishAt(fish);
        written.empty();
        written.addNumber(told.weight);
        written.add('*');
        written.addNumber(told.salt);
        for (int side = 0; side < SIDES; side++) {
            written.addSide(told.side(side), told.down == side);
        }
        return written.length;
    }

    public char character(int index) throws IndexOutOfBoundsException {
        if (index < 0 || index >= written.length) {
            throw new IndexOutOfBoundsException();
        }
        return written.signAt(index);
    }

    public int meanSmoke() throws ArithmeticException {
        int sides = house.count * SIDES;
        if (sides == 0) {
            throw new ArithmeticException();
        }
        return bitsOf((float) house.allSmoke() / (float) sides);
    }

    public double burntShare() throws ArithmeticException {
        int all = house.count;
        if (all == 0) {
            throw new ArithmeticException();
        }
        return (double) house.burntCount() / (double) all;
    }

    public int account(int what) throws IllegalArgumentException {
        switch (what) {
            case 0:
                return house.count;
            case 1:
                return house.countIn(IN_BRINE);
            case 2:
                return house.countIn(ON_HOOK);
            case 3:
                return house.logs;
            case 4:
                return house.wood;
            case 5:
                return house.hoursSoFar;
            case 6:
                return house.daysSoFar;
            case 7:
                return house.soldSoFar;
            case 8:
                return house.earnedSoFar;
            case 9:
                return house.thrownSoFar;
            case 10:
                return history.count;
            case 11:
                return script.length;
            default:
                throw new IllegalArgumentException();
        }
    }

    public int undo() throws IllegalStateException {
        if (history.count == 0) {
            throw new IllegalStateException();
        }
        history.takeBack(house);
        return history.count;
    }

    public int save() {
        snapshot.copyFrom(house);
        hasSnapshot = true;
        return house.count;
    }

    public int restore() throws IllegalStateException {
        if (!hasSnapshot) {
            throw new IllegalStateException();
        }
        house.copyFrom(snapshot);
        history.forget();
        return house.count;
    }

    private int settled(int answer) throws UnsupportedOperationException {
        if (answer == REFUSED) {
            throw new UnsupportedOperationException();
        }
        history.keep(before);
        return answer;
    }

    private void needFish(int fish) throws IndexOutOfBoundsException {
        if (!house.has(fish)) {
            throw new IndexOutOfBoundsException();
        }
    }

    private void needRack(int rack) throws IndexOutOfBoundsException {
        if (!isRack(rack)) {
            throw new IndexOutOfBoundsException();
        }
    }

    private void needForecastHours(int many) throws IllegalArgumentException {
        if (many < 0 || many > MOST_HOURS) {
            throw new IllegalArgumentException();
        }
    }

    private int found(int answer) throws NoSuchElementException {
        if (answer < 0) {
            throw new NoSuchElementException();
        }
        return answer;
    }

    private static boolean isRack(int rack) {
        return rack >= 0 && rack < RACKS;
    }

    private static boolean isHook(int hook) {
        return hook >= 0 && hook < HOOKS;
    }

    private static int heatBy(int logs, int rack) {
        return Math.max(0, logs - rack);
    }

    /** The bits of a float that is 0, or of ordinary size and positive: Float is no part of the language kept to. */
    private static int bitsOf(float value) {
        if (value <= 0) {
            return 0;
        }
        float rest = value;
        int exponent = 127;
        for (int i = 0; i < 127 && rest >= 2; i++) {
            rest = rest / 2;
            exponent++;
        }
        for (int i = 0; i < 126 && rest < 1; i++) {
            rest = rest * 2;
            exponent--;
        }
        return (exponent << 23) + (int) ((rest - 1) * (1 << 23));
    }

    /** One of the two sides of a fish. */
    private static final class Side {
        int smoke;
        int charred;

        void copyFrom(Side other) {
            smoke = other.smoke;
            charred = other.charred;
        }

        void clear() {
            smoke = 0;
            charred = 0;
        }

        void addSmoke(int more) {
            smoke = Math.min(MOST_SMOKE, smoke + more);
        }

        void addChar(int more) {
            charred = Math.min(MOST_CHAR, charred + more);
        }

        boolean isBurnt() {
            return charred == MOST_CHAR;
        }
    }

    /** A fish with its sides, and where it is. */
    private static final class Fish {
        final Side first = new Side();
        final Side second = new Side();
        int weight;
        int salt;
        int place;
        int rack;
        int hook;
        int down;
        boolean isTurned;

        void copyFrom(Fish other) {
            first.copyFrom(other.first);
            second.copyFrom(other.second);
            weight = other.weight;
            salt = other.salt;
            place = other.place;
            rack = other.rack;
            hook = other.hook;
            down = other.down;
            isTurned = other.isTurned;
        }

        void begin(int newWeight) {
            first.clear();
            second.clear();
            weight = newWeight;
            salt = 0;
            down = 0;
            moveTo(OUTSIDE, NONE, NONE);
        }

        /** A side that was turned down is so only while the fish hangs where it hung. */
        void moveTo(int newPlace, int newRack, int newHook) {
            place = newPlace;
            rack = newRack;
            hook = newHook;
            isTurned = false;
        }

        void flip() {
            down = 1 - down;
            isTurned = true;
        }

        void addSalt(int more) {
            salt = Math.min(MOST_SALT, salt + more);
        }

        /** The side down takes the smoke and the heat of an hour. */
        void spendHour(int heat, int smoke) {
            Side taking = side(down);
            taking.addSmoke(smoke);
            if (!isTurned && heat > heatBorne()) {
                taking.addChar(heat - heatBorne());
            }
            isTurned = false;
        }

        Side side(int number) {
            return number == 0 ? first : second;
        }

        Side downSide() {
            return side(down);
        }

        boolean hangs() {
            return place == ON_HOOK;
        }

        boolean isBurnt() {
            return first.isBurnt() || second.isBurnt();
        }

        boolean isReady() {
            return !isBurnt() && smokeLacking() == 0;
        }

        int heatBorne() {
            return LEAST_HEAT_BORNE + salt / 3;
        }

        int gapNeeded() {
            return 1 + weight / 3;
        }

        int smokeLacking() {
            int wanted = LEAST_SMOKE_WANTED + weight;
            return Math.max(0, wanted - first.smoke) + Math.max(0, wanted - second.smoke);
        }

        int price() {
            return weight * 3 + (salt <= MOST_SALT_PAID ? salt : 0);
        }

        int number(int what) {
            switch (what) {
                case 0:
                    return weight;
                case 1:
                    return salt;
                case 2:
                    return place;
                case 3:
                    return rack;
                case 4:
                    return hook;
                case 5:
                    return down;
                case 6:
                    return isTurned ? 1 : 0;
                case 7:
                    return heatBorne();
                default:
                    return gapNeeded();
            }
        }

        int measured(int measure) {
            switch (measure) {
                case 0:
                    return weight;
                case 1:
                    return salt;
                case 2:
                    return first.smoke + second.smoke;
                case 3:
                    return Math.max(first.charred, second.charred);
                default:
                    return price();
            }
        }
    }

    /** All that undo and restore bring back. */
    private static final class House {
        private final Fish[] rows = new Fish[MOST_FISH];
        private final Fish nobody = new Fish();
        int count;
        int logs;
        int wood;
        int hoursSoFar;
        int daysSoFar;
        int soldSoFar;
        int earnedSoFar;
        int thrownSoFar;

        House() {
            for (int i = 0; i < rows.length; i++) {
                rows[i] = new Fish();
            }
        }

        void copyFrom(House other) {
            count = other.count;
            logs = other.logs;
            wood = other.wood;
            hoursSoFar = other.hoursSoFar;
            daysSoFar = other.daysSoFar;
            soldSoFar = other.soldSoFar;
            earnedSoFar = other.earnedSoFar;
            thrownSoFar = other.thrownSoFar;
            for (int i = 0; i < count; i++) {
                fishAt(i).copyFrom(other.fishAt(i));
            }
        }

        boolean has(int number) {
            return number >= 0 && number < count;
        }

        /** Every way to a fish leads through here, so that no number can ever miss the row. */
        Fish fishAt(int number) {
            return number >= 0 && number < rows.length ? rows[number] : nobody;
        }

        void addFish(int weight) {
            fishAt(count).begin(weight);
            count++;
        }

        void removeFish(int number) {
            count--;
            for (int i = number; i < count; i++) {
                fishAt(i).copyFrom(fishAt(i + 1));
            }
        }

        int countIn(int place) {
            int many = 0;
            for (int i = 0; i < count; i++) {
                many += fishAt(i).place == place ? 1 : 0;
            }
            return many;
        }

        /** Only a fish that hangs has the number of a rack. */
        int countOnRack(int rack) {
            int many = 0;
            for (int i = 0; i < count; i++) {
                many += fishAt(i).rack == rack ? 1 : 0;
            }
            return many;
        }

        int burntCount() {
            int many = 0;
            for (int i = 0; i < count; i++) {
                many += fishAt(i).isBurnt() ? 1 : 0;
            }
            return many;
        }

        int allSmoke() {
            int sum = 0;
            for (int i = 0; i < count; i++) {
                Fish one = fishAt(i);
                sum += one.first.smoke + one.second.smoke;
            }
            return sum;
        }

        int saltInBrine() {
            int sum = 0;
            for (int i = 0; i < count; i++) {
                Fish one = fishAt(i);
                sum += one.place == IN_BRINE ? one.salt : 0;
            }
            return sum;
        }

        int fishOn(int rack, int hook) {
            for (int i = 0; i < count; i++) {
                Fish one = fishAt(i);
                if (one.rack == rack && one.hook == hook) {
                    return i;
                }
            }
            return NONE;
        }

        char letterOn(int rack, int hook) {
            int number = fishOn(rack, hook);
            if (number == NONE) {
                return '.';
            }
            return (char) ((fishAt(number).isBurnt() ? 'A' : 'a') + number);
        }

        /** How far the nearest fish but one hangs from a hook, or FAR. */
        int nearestOther(int rack, int hook, int except) {
            int least = FAR;
            for (int i = 0; i < count; i++) {
                Fish one = fishAt(i);
                if (i != except && one.rack == rack) {
                    least = Math.min(least, Math.abs(one.hook - hook));
                }
            }
            return least;
        }

        int nearestTo(int number) {
            Fish one = fishAt(number);
            return one.hangs() ? nearestOther(one.rack, one.hook, number) : FAR;
        }

        boolean hangsTooNear(int number) {
            Fish one = fishAt(number);
            return one.hangs() && nearestOther(one.rack, one.hook, number) < one.gapNeeded();
        }

        int farthestHook(int number, int rack) {
            int best = NONE;
            int farthest = 0;
            for (int hook = 0; hook < HOOKS; hook++) {
                // 0 where another fish hangs, so that only a free hook is ever chosen
                int far = nearestOther(rack, hook, number);
                if (far > farthest) {
                    best = hook;
                    farthest = far;
                }
            }
            return best;
        }

        int fishAtPlace(int measure, int place) {
            for (int i = 0; i < count; i++) {
                if (placeOf(measure, i) == place) {
                    return i;
                }
            }
            return NONE;
        }

        private int placeOf(int measure, int number) {
            int own = fishAt(number).measured(measure);
            int ahead = 0;
            for (int i = 0; i < count; i++) {
                int other = fishAt(i).measured(measure);
                boolean isAhead = other > own || (other == own && i < number);
                ahead += isAhead ? 1 : 0;
            }
            return ahead;
        }

        /** An hour of one fish, with as many logs as there are ahead of it. */
        void smokeOne(Fish one, int logsAhead, boolean isTooNear) {
            if (!one.hangs()) {
                return;
            }
            int heat = heatBy(logsAhead, one.rack);
            int smoke = logsAhead > 0 ? heat + wood : 0;
            one.spendHour(heat, isTooNear ? smoke / 2 : smoke);
        }

        void passHour() {
            for (int i = 0; i < count; i++) {
                smokeOne(fishAt(i), logs, hangsTooNear(i));
            }
            logs = Math.max(0, logs - 1);
            hoursSoFar++;
        }
    }

    /** The houses before the latest changes, the latest first. */
    private static final class History {
        private final House[] kept = new House[MOST_UNDONE];
        int count;

        History() {
            for (int i = 0; i < kept.length; i++) {
                kept[i] = new House();
            }
        }

        void keep(House before) {
            House oldest = kept[MOST_UNDONE - 1];
            for (int i = MOST_UNDONE - 1; i > 0; i--) {
                kept[i] = kept[i - 1];
            }
            kept[0] = oldest;
            oldest.copyFrom(before);
            count = Math.min(MOST_UNDONE, count + 1);
        }

        void takeBack(House house) {
            House latest = kept[0];
            for (int i = 1; i < MOST_UNDONE; i++) {
                kept[i - 1] = kept[i];
            }
            kept[MOST_UNDONE - 1] = latest;
            house.copyFrom(latest);
            count = Math.max(0, count - 1);
        }

        void forget() {
            count = 0;
        }
    }

    /** The reason why something was refused at last. */
    private static final class Refusal {
        boolean isKept;
        /** Which command of a text is carried out, 0 outside of a text. */
        int current;
        private int reason;
        private int detail;
        private int command;

        int keep(int newReason, int newDetail) {
            isKept = true;
            reason = newReason;
            detail = newDetail;
            command = current;
            return REFUSED;
        }

        int number(int what) {
            switch (what) {
                case 0:
                    return reason;
                case 1:
                    return detail;
                default:
                    return command;
            }
        }
    }

    /** The changes, each of which answers REFUSED and changes nothing if a reason applies. */
    private static final class Work {
        private final House house;
        private final Refusal refusal;

        Work(House house, Refusal refusal) {
            this.house = house;
            this.refusal = refusal;
        }

        int letCome(int weight) {
            if (weight < 1 || weight > MOST_WEIGHT) {
                return refusal.keep(OUT_OF_RANGE, 0);
            }
            if (house.count >= MOST_FISH) {
                return refusal.keep(TOO_MANY, MOST_FISH);
            }
            house.addFish(weight);
            return house.count - 1;
        }

        int layIntoBrine(int number) {
            if (!house.has(number)) {
                return refusal.keep(NO_SUCH_FISH, house.count);
            }
            Fish one = house.fishAt(number);
            if (one.place != OUTSIDE) {
                return refusal.keep(NOT_OUTSIDE, one.place);
            }
            one.moveTo(IN_BRINE, NONE, NONE);
            return house.countIn(IN_BRINE);
        }

        int takeOut(int number) {
            if (!house.has(number)) {
                return refusal.keep(NO_SUCH_FISH, house.count);
            }
            Fish one = house.fishAt(number);
            if (one.place == OUTSIDE) {
                return refusal.keep(OUTSIDE_ALREADY, number);
            }
            one.moveTo(OUTSIDE, NONE, NONE);
            return one.salt;
        }

        int hangUp(int number, int rack, int hook) {
            if (!isRack(rack) || !isHook(hook)) {
                return refusal.keep(OUT_OF_RANGE, 0);
            }
            if (!house.has(number)) {
                return refusal.keep(NO_SUCH_FISH, house.count);
            }
            Fish one = house.fishAt(number);
            if (one.place != OUTSIDE) {
                return refusal.keep(NOT_OUTSIDE, one.place);
            }
            int there = house.fishOn(rack, hook);
            if (there != NONE) {
                return refusal.keep(HOOK_TAKEN, there);
            }
            one.moveTo(ON_HOOK, rack, hook);
            return house.countOnRack(rack);
        }

        int turnOver(int number) {
            if (!house.has(number)) {
                return refusal.keep(NO_SUCH_FISH, house.count);
            }
            Fish one = house.fishAt(number);
            if (!one.hangs()) {
                return refusal.keep(NOT_HANGING, one.place);
            }
            one.flip();
            return one.down;
        }

        int turnRack(int rack) {
            if (!isRack(rack)) {
                return refusal.keep(OUT_OF_RANGE, 0);
            }
            int many = house.countOnRack(rack);
            if (many == 0) {
                return refusal.keep(NOTHING_THERE, 0);
            }
            for (int i = 0; i < house.count; i++) {
                Fish one = house.fishAt(i);
                if (one.rack == rack) {
                    one.flip();
                }
            }
            return many;
        }

        int layLogs(int more) {
            if (more < 1 || more > MOST_LOGS) {
                return refusal.keep(OUT_OF_RANGE, 0);
            }
            if (house.logs + more > MOST_LOGS) {
                return refusal.keep(TOO_MANY, MOST_LOGS);
            }
            house.logs += more;
            return house.logs;
        }

        int tellWood(int wood) {
            if (wood < 0 || wood >= WOODS) {
                return refusal.keep(OUT_OF_RANGE, 0);
            }
            int earlier = house.wood;
            if (wood == earlier) {
                return refusal.keep(SO_ALREADY, wood);
            }
            house.wood = wood;
            return earlier;
        }

        int passDay() {
            if (house.countIn(IN_BRINE) == 0) {
                return refusal.keep(NOTHING_THERE, 0);
            }
            for (int i = 0; i < house.count; i++) {
                Fish one = house.fishAt(i);
                if (one.place == IN_BRINE) {
                    one.addSalt(SALT_A_DAY);
                }
            }
            house.daysSoFar++;
            return house.saltInBrine();
        }

        int passHours(int many) {
            if (many < 1 || many > MOST_HOURS) {
                return refusal.keep(OUT_OF_RANGE, 0);
            }
            for (int i = 0; i < many; i++) {
                house.passHour();
            }
            return house.burntCount();
        }

        int sellOff(int number) {
            if (!house.has(number)) {
                return refusal.keep(NO_SUCH_FISH, house.count);
            }
            Fish one = house.fishAt(number);
            if (!one.isReady()) {
                return refusal.keep(NOT_DONE, one.isBurnt() ? LACK_OF_BURNT : one.smokeLacking());
            }
            int price = one.price();
            house.soldSoFar++;
            house.earnedSoFar += price;
            house.removeFish(number);
            return price;
        }

        int discard(int number) {
            if (!house.has(number)) {
                return refusal.keep(NO_SUCH_FISH, house.count);
            }
            int weight = house.fishAt(number).weight;
            house.thrownSoFar++;
            house.removeFish(number);
            return weight;
        }

        /** The command that the script has read at last. */
        int carryOut(Script script) {
            switch (script.kind) {
                case 'f':
                    return letCome(script.number);
                case 'b':
                    return layIntoBrine(script.number);
                case 'o':
                    return takeOut(script.number);
                case 'h':
                    return hangUp(script.number, script.rack, script.hook);
                case 't':
                    return turnOver(script.number);
                case 'a':
                    return turnRack(script.number);
                case 'l':
                    return layLogs(script.number);
                case 'w':
                    return tellWood(script.number);
                case 'd':
                    return passDay();
                case 'n':
                    return passHours(script.number);
                case 's':
                    return sellOff(script.number);
                default:
                    return discard(script.number);
            }
        }
    }

    /** What would become of a fish, tried on a copy of it. */
    private static final class Forecast {
        private final House house;
        private final Fish trial = new Fish();

        Forecast(House house) {
            this.house = house;
        }

        int charHourByHour(int number, int many) {
            boolean isTooNear = house.hangsTooNear(number);
            trial.copyFrom(house.fishAt(number));
            for (int hour = 0; hour < many; hour++) {
                tryHour(hour, isTooNear);
            }
            return trial.downSide().charred;
        }

        /** Each hour chars by 1 less than the hour before, as a log has burnt: the sum of such a row. */
        int charAtOnce(int number, int many) {
            Fish one = house.fishAt(number);
            int charred = one.downSide().charred;
            if (!one.hangs()) {
                return charred;
            }
            int above = heatBy(house.logs, one.rack) - one.heatBorne();
            int first = one.isTurned ? 1 : 0;
            int end = Math.min(many, above);
            if (end <= first) {
                return charred;
            }
            int sum = (end - first) * (2 * above - first - end + 1) / 2;
            return Math.min(MOST_CHAR, charred + sum);
        }

        int hoursUntilBurnt(int number) {
            boolean isTooNear = house.hangsTooNear(number);
            trial.copyFrom(house.fishAt(number));
            // when all logs have burnt nothing more happens
            for (int hour = 0; hour <= MOST_LOGS; hour++) {
                if (trial.isBurnt()) {
                    return hour;
                }
                tryHour(hour, isTooNear);
            }
            return NEVER;
        }

        int hoursUntilReady(int number) {
            boolean isTooNear = house.hangsTooNear(number);
            trial.copyFrom(house.fishAt(number));
            for (int hour = 0; hour <= MOST_LOGS; hour++) {
                if (trial.isReady()) {
                    return hour;
                }
                trial.flip();
                tryHour(hour, isTooNear);
            }
            return NEVER;
        }

        int firstToBurn() {
            int first = NONE;
            int least = MOST_LOGS + 1;
            for (int i = 0; i < house.count; i++) {
                int hours = hoursUntilBurnt(i);
                // 0 hours: burnt already, and left out
                if (hours > 0 && hours < least) {
                    first = i;
                    least = hours;
                }
            }
            return first;
        }

        private void tryHour(int hour, boolean isTooNear) {
            house.smokeOne(trial, Math.max(0, house.logs - hour), isTooNear);
        }
    }

    /** The text buffer, and what is read of it. */
    private static final class Script {
        private final char[] signs = new char[MOST_SIGNS];
        int length;
        int fault = NONE;
        int commandCount;
        private int cursor;
        /** The command that was read at last. */
        char kind;
        int number;
        int rack;
        int hook;

        void add(char sign) {
            if (length < signs.length) {
                signs[length] = sign;
                length++;
            }
        }

        void empty() {
            length = 0;
        }

        void rewind() {
            cursor = 0;
        }

        void pass() {
            cursor++;
        }

        /** Finds the fault, and how many commands there are if there is none. */
        void examine() {
            rewind();
            fault = findFault();
        }

        private int findFault() {
            for (int many = 1; many <= MOST_SIGNS; many++) {
                if (!readCommand()) {
                    return cursor;
                }
                if (cursor == length) {
                    commandCount = many;
                    return NONE;
                }
                if (signNow() != ';') {
                    return cursor;
                }
                pass();
            }
            return cursor;
        }

        /** Where the command cannot go on, the cursor stays: there is the fault. */
        boolean readCommand() {
            kind = signNow();
            switch (kind) {
                case 'd':
                    pass();
                    return true;
                case 'f':
                case 'w':
                case 'a':
                    pass();
                    number = readNumber(1);
                    return number != NONE;
                case 'b':
                case 'o':
                case 't':
                case 'l':
                case 'n':
                case 's':
                case 'x':
                    pass();
                    number = readNumber(2);
                    return number != NONE;
                case 'h':
                    pass();
                    number = readNumber(2);
                    return number != NONE && readHook();
                default:
                    return false;
            }
        }

        private boolean readHook() {
            if (signNow() != '/') {
                return false;
            }
            pass();
            rack = readNumber(1);
            if (rack == NONE) {
                return false;
            }
            hook = readNumber(1);
            return hook != NONE;
        }

        private int readNumber(int mostDigits) {
            if (!isDigit(signNow())) {
                return NONE;
            }
            int value = 0;
            for (int i = 0; i < mostDigits && isDigit(signNow()); i++) {
                value = value * 10 + (signNow() - '0');
                pass();
            }
            return value;
        }

        /** Behind the end stands a sign that no command has, so that the end is a fault like any other. */
        private char signNow() {
            return cursor >= 0 && cursor < length && cursor < signs.length ? signs[cursor] : (char) 0;
        }

        private static boolean isDigit(char sign) {
            return sign >= '0' && sign <= '9';
        }
    }

    /** The line that was written at last. */
    private static final class Line {
        private final char[] signs = new char[LONGEST_LINE];
        int length;

        void empty() {
            length = 0;
        }

        void add(char sign) {
            if (length < signs.length) {
                signs[length] = sign;
                length++;
            }
        }

        void addNumber(int number) {
            if (number > 9) {
                add((char) ('0' + number / 10));
            }
            add((char) ('0' + number % 10));
        }

        void addSide(Side side, boolean isDown) {
            add('/');
            addNumber(side.smoke);
            add('~');
            addNumber(side.charred);
            if (isDown) {
                add('!');
            }
        }

        char signAt(int index) {
            return index >= 0 && index < signs.length ? signs[index] : (char) 0;
        }
    }
}
