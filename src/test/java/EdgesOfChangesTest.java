/** A test for each sentence of the promises 1 to 13: what is too small, too large, empty, full or refused. */
final class EdgesOfChangesTest {
    private static final int[] BELOW_AND_ABOVE = {-1, Integer.MIN_VALUE, Integer.MAX_VALUE};

    private final Check check;
    private final Document document;

    EdgesOfChangesTest(Check check, Document document) {
        this.check = check;
        this.document = document;
    }

    void run() {
        document.test(1, "Creates a house without fish and logs.", this::newObject);
        document.test(2, "Lets a fish come, which lies outside.", this::fishComes);
        document.test(2, "Returns its number.", this::fishNumber);
        document.test(2, "Throws `UnsupportedOperationException` if it is refused for the reason 1 or 2; the reason is kept",
            this::fishRefused);
        document.test(3, "Returns how many are in brine then.", this::brineHowMany);
        document.test(3, "Throws `UnsupportedOperationException` if it is refused for the reason 3 or 4; the reason is kept",
            this::brineRefused);
        document.test(4, "Takes a fish out of brine, or off its hook.", this::outOfBoth);
        document.test(4, "Returns its salt.", this::outSalt);
        document.test(4, "Throws `UnsupportedOperationException` if it is refused for the reason 3 or 5; the reason is kept",
            this::outRefused);
        document.test(5, "Returns how many fish hang on the rack then.", this::hangHowMany);
        document.test(5, "Throws `UnsupportedOperationException` if it is refused for the reason 1, for the rack or the hook, 3, 4 or"
            + " 6; the reason is kept", this::hangRefused);
        document.test(6, "Turns a fish that hangs.", this::turnOne);
        document.test(6, "Returns the side that is down then.", this::turnSide);
        document.test(6, "Throws `UnsupportedOperationException` if it is refused for the reason 3 or 7; the reason is kept",
            this::turnRefused);
        document.test(7, "Turns all fish of a rack.", this::turnAllOfRack);
        document.test(7, "Returns how many are turned.", this::turnAllHowMany);
        document.test(7, "Throws `UnsupportedOperationException` if it is refused for the reason 1 or 8, if none hangs there; the"
            + " reason is kept", this::turnAllRefused);
        document.test(8, "`more`: how many, 1 to 12", this::logsMore);
        document.test(8, "Returns how many there are then.", this::logsHowMany);
        document.test(8, "Throws `UnsupportedOperationException` if it is refused for the reason 1 or 2, with 12; the reason is kept",
            this::logsRefused);
        document.test(9, "Returns the one before.", this::woodBefore);
        document.test(9, "Throws `UnsupportedOperationException` if it is refused for the reason 1 or 9; the reason is kept",
            this::woodRefused);
        document.test(10, "Returns how much salt all fish in brine have then.", this::daySalt);
        document.test(10, "Throws `UnsupportedOperationException` if it is refused for the reason 8, if none is in brine; the reason"
            + " is kept", this::dayRefused);
        document.test(11, "`many`: how many, 1 to 24", this::hoursMany);
        document.test(11, "Returns how many fish are burnt then.", this::hoursBurnt);
        document.test(11, "Throws `UnsupportedOperationException` if it is refused for the reason 1; the reason is kept",
            this::hoursRefused);
        document.test(12, "Sells a fish, wherever it is.", this::sellAnywhere);
        document.test(12, "Returns for how much.", this::sellHowMuch);
        document.test(12, "Throws `UnsupportedOperationException` if it is refused for the reason 3 or 10; the reason is kept",
            this::sellRefused);
        document.test(13, "Throws a fish away, wherever it is.", this::throwAwayAnywhere);
        document.test(13, "Returns its weight.", this::throwAwayWeight);
        document.test(13, "Throws `UnsupportedOperationException` if it is refused for the reason 3; the reason is kept",
            this::throwAwayRefused);
    }

    private interface OfFish {
        int of(SmokeRacks house, int fish);
    }

    /** The reason 3: too small, too large, in an empty house and in a full one. */
    private void noSuchFish(OfFish call) {
        for (int many : new int[] {0, 1, 12}) {
            SmokeRacks house = Houses.ofMany(many);
            check.refused("3, the fish " + many + " of " + many, house, 3, many, () -> call.of(house, many));
            for (int fish : BELOW_AND_ABOVE) {
                check.refused("3, the fish " + fish + " of " + many, house, 3, many, () -> call.of(house, fish));
            }
        }
    }

    private void newObject() {
        SmokeRacks house = new SmokeRacks();
        check.due("all that is told", View.whole(house), "0 0 0 0 0 0 0 0 0 0  undo 0 buffer 0 fault -1 line  reason none");
        for (int rack = 0; rack < 4; rack++) {
            check.due("a rack", View.line(house, house.rack(rack)), "..........");
            check.due("its heat", house.heat(rack), 0);
        }
        check.leaves("no fish", house, IndexOutOfBoundsException.class, () -> house.fishOf(0, 0));
        house.fish(1);
        house.logs(1);
        SmokeRacks other = new SmokeRacks();
        check.due("another one", other.account(0) + other.account(3), 0);
    }

    private void fishComes() {
        SmokeRacks house = Houses.hanging(0, 1, 2);
        house.brine(house.fish(3));
        house.throwAway(0);
        check.due("the new one's number", house.fish(4), 2);
        check.due("a new one", "" + house.fishOf(2, 2) + house.fishOf(2, 3) + house.fishOf(2, 4), "0-1-1");
        check.due("the others stay", "" + house.fishOf(0, 2) + house.fishOf(1, 2), "21");
    }

    private void fishNumber() {
        SmokeRacks house = new SmokeRacks();
        for (int number = 0; number < 12; number++) {
            check.due("the number", house.fish(9), number);
        }
        house.throwAway(5);
        check.due("after one has gone", house.fish(9), 11);
    }

    private void fishRefused() {
        SmokeRacks full = Houses.ofMany(12);
        check.refused("2, weight 1", full, 2, 12, () -> full.fish(1));
        check.refused("2, weight 9", full, 2, 12, () -> full.fish(9));
        check.refused("1 ahead of 2, weight 0", full, 1, 0, () -> full.fish(0));
        check.refused("1 ahead of 2, weight 10", full, 1, 0, () -> full.fish(10));
        SmokeRacks empty = new SmokeRacks();
        check.refused("1, weight 0", empty, 1, 0, () -> empty.fish(0));
        check.refused("1, weight 10", empty, 1, 0, () -> empty.fish(10));
        for (int weight : BELOW_AND_ABOVE) {
            check.refused("1, weight " + weight, empty, 1, 0, () -> empty.fish(weight));
        }
        check.due("weight 1 is not refused", empty.fish(1), 0);
        check.due("weight 9 is not refused", empty.fish(9), 1);
    }

    private void brineHowMany() {
        SmokeRacks house = Houses.ofMany(12);
        for (int many = 1; many <= 12; many++) {
            check.due("how many", house.brine(12 - many), many);
        }
        house.out(3);
        house.out(0);
        house.hang(0, 1, 1);
        check.due("without one on a hook", house.brine(3), 11);
    }

    private void brineRefused() {
        noSuchFish((other, fish) -> other.brine(fish));
        SmokeRacks house = Houses.ofMany(1);
        house.brine(0);
        check.refused("4, in brine", house, 4, 1, () -> house.brine(0));
        house.out(0);
        house.hang(0, 3, 9);
        check.refused("4, on a hook", house, 4, 2, () -> house.brine(0));
        house.out(0);
        check.due("outside again", house.brine(0), 1);
    }

    private void outOfBoth() {
        SmokeRacks house = Houses.ofMany(2);
        house.brine(0);
        house.hang(1, 0, 0);
        house.out(0);
        house.out(1);
        check.due("where both are", "" + house.fishOf(0, 2) + house.fishOf(1, 2), "00");
        check.due("how many are there", house.account(1) + house.account(2), 0);
        check.due("the hook", View.line(house, house.rack(0)), "..........");
    }

    private void outSalt() {
        SmokeRacks house = Houses.ofMany(1);
        house.brine(0);
        check.due("none", house.out(0), 0);
        for (int salt : new int[] {2, 4, 6, 8, 9}) {
            house.brine(0);
            house.day();
            check.due("salt", house.out(0), salt);
            house.hang(0, 1, 1);
            check.due("salt off a hook", house.out(0), salt);
        }
    }

    private void outRefused() {
        noSuchFish((other, fish) -> other.out(fish));
        SmokeRacks house = Houses.ofMany(12);
        check.refused("5, of the first", house, 5, 0, () -> house.out(0));
        check.refused("5, of the last", house, 5, 11, () -> house.out(11));
        house.brine(11);
        house.out(11);
        check.refused("5, of one that was taken out", house, 5, 11, () -> house.out(11));
    }

    private void hangHowMany() {
        SmokeRacks house = Houses.ofMany(12);
        for (int hook = 0; hook < 10; hook++) {
            check.due("how many", house.hang(hook, 3, hook), hook + 1);
        }
        check.due("on another rack", house.hang(10, 2, 0), 1);
        house.out(0);
        check.due("after one was taken off", house.hang(0, 3, 0), 10);
    }

    private void hangRefused() {
        noSuchFish((other, fish) -> other.hang(fish, 0, 0));
        SmokeRacks house = Houses.ofMany(12);
        for (int hook = 0; hook < 10; hook++) {
            house.hang(hook, 3, hook);
        }
        check.refused("1, the rack 4", house, 1, 0, () -> house.hang(11, 4, 0));
        check.refused("1, the rack -1", house, 1, 0, () -> house.hang(11, -1, 0));
        check.refused("1, the hook 10", house, 1, 0, () -> house.hang(11, 0, 10));
        check.refused("1, the hook -1", house, 1, 0, () -> house.hang(11, 0, -1));
        check.refused("1, ahead of 3", house, 1, 0, () -> house.hang(12, 4, 0));
        check.refused("1, ahead of 4", house, 1, 0, () -> house.hang(0, 0, 10));
        check.refused("3, ahead of 6", house, 3, 12, () -> house.hang(12, 3, 0));
        check.refused("4, ahead of 6", house, 4, 2, () -> house.hang(0, 3, 1));
        check.refused("4, on the hook where it hangs", house, 4, 2, () -> house.hang(0, 3, 0));
        for (int hook = 0; hook < 10; hook++) {
            int taken = hook;
            check.refused("6, on a full rack", house, 6, hook, () -> house.hang(11, 3, taken));
        }
        house.brine(11);
        check.refused("4, in brine", house, 4, 1, () -> house.hang(11, 0, 0));
    }

    private void turnOne() {
        SmokeRacks house = Houses.hanging(3, 1, 1, 1);
        house.brine(house.fish(1));
        house.fish(1);
        house.turn(1);
        StringBuilder sides = new StringBuilder();
        for (int fish = 0; fish < 5; fish++) {
            sides.append(house.fishOf(fish, 5)).append(house.fishOf(fish, 6));
        }
        check.due("it alone", sides.toString(), "0011000000");
    }

    private void turnSide() {
        SmokeRacks house = Houses.hanging(0, 1);
        check.due("once", house.turn(0), 1);
        check.due("twice", house.turn(0), 0);
        check.due("three times", house.turn(0), 1);
        house.hours(1);
        check.due("after an hour", house.turn(0), 0);
    }

    private void turnRefused() {
        noSuchFish((other, fish) -> other.turn(fish));
        SmokeRacks house = Houses.ofMany(1);
        check.refused("7, outside", house, 7, 0, () -> house.turn(0));
        house.brine(0);
        check.refused("7, in brine", house, 7, 1, () -> house.turn(0));
        house.out(0);
        house.hang(0, 0, 0);
        check.due("on a hook", house.turn(0), 1);
        house.out(0);
        check.refused("7, off its hook", house, 7, 0, () -> house.turn(0));
    }

    private void turnAllOfRack() {
        SmokeRacks house = Houses.hanging(1, 1, 1, 1);
        house.hang(house.fish(1), 2, 0);
        house.hang(house.fish(1), 0, 9);
        house.brine(house.fish(1));
        house.fish(1);
        house.turn(1);
        house.turnAll(1);
        StringBuilder sides = new StringBuilder();
        StringBuilder turned = new StringBuilder();
        for (int fish = 0; fish < 7; fish++) {
            sides.append(house.fishOf(fish, 5));
            turned.append(house.fishOf(fish, 6));
        }
        check.due("sides down", sides.toString(), "1010000");
        check.due("turned down", turned.toString(), "1110000");
    }

    private void turnAllHowMany() {
        SmokeRacks house = Houses.hanging(0, 1, 1, 1, 1, 1, 1, 1, 1, 1, 1);
        house.fish(1);
        house.hang(house.fish(1), 3, 5);
        check.due("of a full rack", house.turnAll(0), 10);
        check.due("of one", house.turnAll(3), 1);
        house.out(9);
        check.due("of one less", house.turnAll(0), 9);
    }

    private void turnAllRefused() {
        SmokeRacks house = Houses.hanging(1, 1);
        check.refused("1, the rack 4", house, 1, 0, () -> house.turnAll(4));
        for (int rack : BELOW_AND_ABOVE) {
            check.refused("1, the rack " + rack, house, 1, 0, () -> house.turnAll(rack));
        }
        check.refused("8, the rack 0", house, 8, 0, () -> house.turnAll(0));
        check.refused("8, the rack 3", house, 8, 0, () -> house.turnAll(3));
        house.out(0);
        check.refused("8, when the last was taken off", house, 8, 0, () -> house.turnAll(1));
        SmokeRacks outside = Houses.ofMany(2);
        outside.brine(1);
        check.refused("8, when none hangs at all", outside, 8, 0, () -> outside.turnAll(3));
    }

    private void logsMore() {
        SmokeRacks house = new SmokeRacks();
        for (int more : new int[] {0, 13, -1, Integer.MIN_VALUE, Integer.MAX_VALUE, Integer.MAX_VALUE - 11}) {
            check.refused("logs(" + more + ")", house, 1, 0, () -> house.logs(more));
        }
        check.due("logs(1)", new SmokeRacks().logs(1), 1);
        check.due("logs(12)", new SmokeRacks().logs(12), 12);
    }

    private void logsHowMany() {
        SmokeRacks house = new SmokeRacks();
        check.due("of none", house.logs(5), 5);
        check.due("of 5", house.logs(6), 11);
        check.due("of 11", house.logs(1), 12);
        house.hours(12);
        check.due("of none again", house.logs(12), 12);
    }

    private void logsRefused() {
        SmokeRacks house = new SmokeRacks();
        check.refused("1, none", house, 1, 0, () -> house.logs(0));
        house.logs(12);
        check.refused("1 ahead of 2, none", house, 1, 0, () -> house.logs(0));
        check.refused("1 ahead of 2, 13", house, 1, 0, () -> house.logs(13));
        check.refused("1 ahead of 2, the most there is", house, 1, 0, () -> house.logs(Integer.MAX_VALUE));
        check.refused("2, one more", house, 2, 12, () -> house.logs(1));
        check.refused("2, 12 more", house, 2, 12, () -> house.logs(12));
        house.hours(1);
        check.refused("2, two more than 11", house, 2, 12, () -> house.logs(2));
        check.due("one more than 11", house.logs(1), 12);
    }

    private void woodBefore() {
        SmokeRacks house = new SmokeRacks();
        check.due("of a new house", house.wood(3), 0);
        check.due("of 3", house.wood(0), 3);
        check.due("of 0", house.wood(2), 0);
    }

    private void woodRefused() {
        SmokeRacks house = new SmokeRacks();
        check.refused("9, the wood 0", house, 9, 0, () -> house.wood(0));
        check.refused("1, the wood 4", house, 1, 0, () -> house.wood(4));
        for (int wood : BELOW_AND_ABOVE) {
            check.refused("1, the wood " + wood, house, 1, 0, () -> house.wood(wood));
        }
        for (int wood : new int[] {3, 2, 1, 0}) {
            house.wood(wood);
            check.refused("9, the wood " + wood, house, 9, wood, () -> house.wood(wood));
        }
    }

    private void daySalt() {
        SmokeRacks house = Houses.ofMany(12);
        house.brine(11);
        check.due("of one", house.day(), 2);
        for (int fish = 0; fish < 11; fish++) {
            house.brine(fish);
        }
        for (int salt : new int[] {4 + 11 * 2, 6 + 11 * 4, 8 + 11 * 6, 9 + 11 * 8, 12 * 9, 12 * 9}) {
            check.due("of all", house.day(), salt);
        }
        house.out(0);
        house.hang(0, 0, 0);
        house.out(1);
        check.due("without one on a hook and one outside", house.day(), 10 * 9);
    }

    private void dayRefused() {
        SmokeRacks empty = new SmokeRacks();
        check.refused("without fish", empty, 8, 0, empty::day);
        SmokeRacks other = Houses.hanging(0, 1);
        other.fish(1);
        check.refused("with one on a hook and one outside", other, 8, 0, other::day);
        other.brine(1);
        check.due("with one in brine", other.day(), 2);
        other.throwAway(1);
        check.refused("when it has gone", other, 8, 0, other::day);
    }

    private void hoursMany() {
        SmokeRacks house = new SmokeRacks();
        check.refused("0", house, 1, 0, () -> house.hours(0));
        check.refused("25", house, 1, 0, () -> house.hours(25));
        check.due("1", house.hours(1) + house.account(5), 1);
        check.due("24", house.hours(24) + house.account(5), 25);
    }

    private void hoursBurnt() {
        check.due("of none", new SmokeRacks().hours(1), 0);
        SmokeRacks full = Houses.ofMany(12);
        for (int fish = 0; fish < 12; fish++) {
            full.hang(fish, fish / 4, fish % 4 * 3);
        }
        full.logs(12);
        full.turn(0);
        check.due("in the first hour, on the racks 0 and 1", full.hours(1), 7);
        check.due("in the next, all", full.hours(1), 12);
        full.out(0);
        full.throwAway(11);
        full.brine(0);
        check.due("off the hooks they count, and gone not", full.hours(24), 11);
    }

    private void hoursRefused() {
        SmokeRacks house = Houses.smoking(1, 12, 3);
        house.turn(0);
        check.refused("1, none", house, 1, 0, () -> house.hours(0));
        check.refused("1, 25", house, 1, 0, () -> house.hours(25));
        for (int many : BELOW_AND_ABOVE) {
            check.refused("1, " + many, house, 1, 0, () -> house.hours(many));
        }
        check.due("hours so far", house.account(5), 0);
    }

    /** One fish of weight 2 and just enough smoke, on a hook. */
    private static SmokeRacks done() {
        SmokeRacks house = Houses.smoking(2, 7, 0);
        house.turn(0);
        house.hours(1);
        house.logs(1);
        house.turn(0);
        house.hours(1);
        return house;
    }

    private void sellAnywhere() {
        SmokeRacks onHook = done();
        check.due("on a hook", onHook.sell(0), 6);
        check.due("its hook", View.line(onHook, onHook.rack(0)), "..........");
        SmokeRacks inBrine = done();
        inBrine.out(0);
        inBrine.brine(0);
        check.due("in brine", inBrine.sell(0) + inBrine.account(1), 6);
        SmokeRacks outside = done();
        outside.out(0);
        check.due("outside", outside.sell(0) + outside.account(0), 6);
    }

    private void sellHowMuch() {
        SmokeRacks house = done();
        house.out(0);
        house.brine(0);
        house.day();
        house.day();
        house.day();
        house.save();
        check.due("with salt 6", house.sell(0), 12);
        check.due("so far", house.account(7) * 100 + house.account(8), 112);
        house.restore();
        house.day();
        check.due("with salt 8", house.sell(0), 6);
        check.due("so far", house.account(7) * 100 + house.account(8), 106);
    }

    private void sellRefused() {
        noSuchFish((other, fish) -> other.sell(fish));
        SmokeRacks house = Houses.smoking(9, 12, 0);
        check.refused("10, the most that can lack", house, 10, 28, () -> house.sell(0));
        house.hours(1);
        check.refused("10, burnt", house, 10, 100, () -> house.sell(0));
        house.out(0);
        check.refused("10, burnt, and outside", house, 10, 100, () -> house.sell(0));
        SmokeRacks less = Houses.smoking(1, 5, 0);
        less.hours(1);
        check.refused("10, 1 and 6 lack", less, 10, 7, () -> less.sell(0));
        less.turn(0);
        less.logs(2);
        less.hours(1);
        check.refused("10, 1 lacks on the side 0", less, 10, 1, () -> less.sell(0));
        less.turn(0);
        less.hours(1);
        check.due("none lacks", less.sell(0), 3);
        SmokeRacks enough = Houses.smoking(1, 12, 0);
        enough.hours(1);
        enough.turn(0);
        enough.hours(1);
        check.refused("10, burnt, though no smoke lacks", enough, 10, 100, () -> enough.sell(0));
    }

    private void throwAwayAnywhere() {
        SmokeRacks house = Houses.hanging(0, 7, 8);
        house.brine(house.fish(9));
        house.fish(1);
        house.logs(12);
        house.hours(1);
        house.throwAway(1);
        check.due("on a hook, and burnt", View.line(house, house.rack(0)), "A.........");
        house.throwAway(1);
        check.due("in brine", house.account(1), 0);
        house.throwAway(1);
        check.due("outside", house.account(0), 1);
        house.throwAway(0);
        check.due("the last there is", house.account(0), 0);
        check.due("thrown away, sold, earned", house.account(9) * 100 + house.account(7) + house.account(8), 400);
    }

    private void throwAwayWeight() {
        SmokeRacks house = Houses.with(1, 9, 5);
        check.due("in the middle", house.throwAway(1), 9);
        check.due("the last", house.throwAway(1), 5);
        check.due("the first", house.throwAway(0), 1);
    }

    private void throwAwayRefused() {
        noSuchFish((other, fish) -> other.throwAway(fish));
        SmokeRacks house = Houses.ofMany(1);
        house.throwAway(0);
        check.refused("3, of an emptied house", house, 3, 0, () -> house.throwAway(0));
    }
}
