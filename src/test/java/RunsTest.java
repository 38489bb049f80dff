import java.util.NoSuchElementException;

/**
 * Long runs of calls with good and bad arguments, the same each time: what must hold after every call, and that
 * nothing but the exceptions of the document comes out. The class counts no calls, so that the many questions
 * between the changes do no harm.
 */
final class RunsTest {
    private static final int RUNS = 150;
    private static final int CALLS = 160;

    private final Check check;
    private long seed = 20261119;

    RunsTest(Check check) {
        this.check = check;
    }

    void run() {
        check.rule("runs");
        for (int run = 0; run < RUNS; run++) {
            oneRun(run % 2 == 0);
        }
        asManyCalls();
    }

    /** An object is used for 512 calls: the last of them are answered as the first. */
    private void asManyCalls() {
        check.rule("512 calls");
        SmokeRacks changed = new SmokeRacks();
        for (int call = 0; call < 512; call += 2) {
            check.due("logs", changed.logs(1), 1);
            check.due("hours", changed.hours(24), 0);
        }
        check.due("hours so far", changed.account(5), 256 * 24);
        SmokeRacks undone = new SmokeRacks();
        for (int call = 0; call < 512; call += 4) {
            check.due("fish", undone.fish(9), 0);
            check.due("save", undone.save(), 1);
            check.due("undo", undone.undo(), 0);
            check.raises("refused", UnsupportedOperationException.class, () -> undone.sell(0));
        }
        check.due("restore", undone.restore(), 1);
        SmokeRacks told = new SmokeRacks();
        for (int call = 0; call < 512; call += 4) {
            told.append('l');
            told.append('1');
            check.due("commands", told.commands(), 1);
            check.due("hours", told.hours(1), 0);
        }
        check.due("changes", told.account(10), 8);
    }

    private int below(int bound) {
        seed = seed * 6364136223846793005L + 1442695040888963407L;
        return (int) ((seed >>> 33) % bound);
    }

    private void oneRun(boolean isWild) {
        SmokeRacks house = new SmokeRacks();
        for (int call = 0; call < CALLS; call++) {
            String before = View.withoutHistory(house);
            int changes = house.account(10);
            boolean isDone = change(house, isWild);
            if (!isDone) {
                check.due("refused", View.withoutHistory(house), before);
                check.due("changes after refusal", house.account(10), changes);
            } else {
                check.due("changes kept", house.account(10), Math.min(8, changes + 1));
                if (below(3) == 0) {
                    check.due("undo", house.undo(), Math.min(7, changes));
                    check.due("undone", View.withoutHistory(house), before);
                }
            }
            forecasts(house);
            ranks(house);
            crowds(house);
            hooks(house);
        }
    }

    private int argument(int bound, boolean isWild) {
        if (isWild && below(8) == 0) {
            int[] odd = {-1, bound, bound + 1, Integer.MIN_VALUE, Integer.MAX_VALUE, 1000};
            return odd[below(odd.length)];
        }
        return below(bound);
    }

    private boolean change(SmokeRacks house, boolean isWild) {
        int fish = argument(Math.max(1, house.account(0)), isWild);
        try {
            switch (below(isWild ? 14 : 13)) {
                case 0: case 1: house.fish(1 + argument(9, isWild)); break;
                case 2: house.brine(fish); break;
                case 3: house.out(fish); break;
                case 4: case 5: house.hang(fish, argument(4, isWild), argument(10, isWild)); break;
                case 6: house.turn(fish); break;
                case 7: house.turnAll(argument(4, isWild)); break;
                case 8: house.logs(1 + argument(12, isWild)); break;
                case 9: house.wood(argument(4, isWild)); break;
                case 10: house.day(); break;
                case 11: house.hours(1 + argument(isWild ? 24 : 3, isWild)); break;
                case 12: house.sell(fish); break;
                default: house.throwAway(fish);
            }
            return true;
        } catch (UnsupportedOperationException refused) {
            return false;
        }
    }

    /** What is foretold is what comes, tried and undone. */
    private void forecasts(SmokeRacks house) {
        int first = -1;
        int least = Integer.MAX_VALUE;
        for (int fish = 0; fish < house.account(0); fish++) {
            int side = house.fishOf(fish, 5);
            int many = 1 + below(24);
            int told = house.wouldChar(fish, many);
            check.due("by a second way", house.wouldCharAgain(fish, many), told);
            check.due("after 0 hours", house.wouldChar(fish, 0), house.sideOf(fish, side, true));
            int burns = burnsIn(house, fish);
            int done = doneIn(house, fish);
            if (burns > 0 && burns < least) {
                first = fish;
                least = burns;
            }
            house.hours(many);
            check.due("the char that came", house.sideOf(fish, side, true), told);
            check.due("burnt by then", isBurnt(house, fish), burns >= 0 && burns <= many);
            house.undo();
            turnedHours(house, fish, done);
        }
        check.due("hottest", hottest(house), first);
    }

    private void turnedHours(SmokeRacks house, int fish, int due) {
        int came = house.isDone(fish) ? 0 : -1;
        if (came < 0 && house.fishOf(fish, 2) == 2) {
            int hour = 0;
            // no more than 8 changes can be undone: an hour and its turn as one text
            for (; hour < 8 && came < 0; hour++) {
                Houses.carryOut(house, "t" + fish + ";n1");
                came = house.isDone(fish) ? hour + 1 : -1;
            }
            for (; hour > 0; hour--) {
                house.undo();
            }
        }
        check.due("the hours until done", due > 8 ? -1 : due, came);
    }

    private static boolean isBurnt(SmokeRacks house, int fish) {
        return house.sideOf(fish, 0, true) == 9 || house.sideOf(fish, 1, true) == 9;
    }

    private static int burnsIn(SmokeRacks house, int fish) {
        try {
            return house.burnsIn(fish);
        } catch (NoSuchElementException never) {
            return -1;
        }
    }

    private static int doneIn(SmokeRacks house, int fish) {
        try {
            return house.doneIn(fish);
        } catch (NoSuchElementException never) {
            return -1;
        }
    }

    private static int hottest(SmokeRacks house) {
        try {
            return house.hottest();
        } catch (NoSuchElementException none) {
            return -1;
        }
    }

    private void ranks(SmokeRacks house) {
        for (int measure = 0; measure < 5; measure++) {
            for (int place = 1; place < house.account(0); place++) {
                int ahead = house.ranked(measure, place - 1);
                int behind = house.ranked(measure, place);
                int more = measured(house, measure, ahead) - measured(house, measure, behind);
                check.holds("rank", more > 0 || more == 0 && ahead < behind);
            }
        }
    }

    private static int measured(SmokeRacks house, int measure, int fish) {
        int salt = house.fishOf(fish, 1);
        switch (measure) {
            case 0:
                return house.fishOf(fish, 0);
            case 1:
                return salt;
            case 2:
                return house.sideOf(fish, 0, false) + house.sideOf(fish, 1, false);
            case 3:
                return Math.max(house.sideOf(fish, 0, true), house.sideOf(fish, 1, true));
            default:
                return house.fishOf(fish, 0) * 3 + (salt > 6 ? 0 : salt);
        }
    }

    private void crowds(SmokeRacks house) {
        int many = 0;
        for (int fish = 0; fish < house.account(0); fish++) {
            boolean isCrowded = false;
            for (int other = 0; other < house.account(0); other++) {
                boolean isNear = Math.abs(house.fishOf(fish, 4) - house.fishOf(other, 4)) < house.fishOf(fish, 8);
                boolean isThere = house.fishOf(fish, 2) == 2 && house.fishOf(other, 3) == house.fishOf(fish, 3);
                isCrowded |= other != fish && isThere && isNear;
            }
            check.due("crowded", house.isCrowded(fish), isCrowded);
            many += isCrowded ? 1 : 0;
        }
        check.due("how many are crowded", house.crowded(), many);
    }

    private void hooks(SmokeRacks house) {
        for (int fish = 0; fish < house.account(0); fish++) {
            int rack = below(4);
            int best = house.bestHook(fish, rack);
            for (int hook = 0; hook < 10; hook++) {
                int more = room(house, fish, rack, best) - room(house, fish, rack, hook);
                check.holds("best hook", more > 0 || more == 0 && best <= hook);
            }
        }
    }

    /** How far the others are, 0 on a hook of theirs; a hundred if there are none. */
    private static int room(SmokeRacks house, int fish, int rack, int hook) {
        int least = 100;
        for (int other = 0; other < house.account(0); other++) {
            if (other != fish && house.fishOf(other, 3) == rack) {
                least = Math.min(least, Math.abs(house.fishOf(other, 4) - hook));
            }
        }
        return least;
    }
}
