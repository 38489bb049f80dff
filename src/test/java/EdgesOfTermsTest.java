import java.util.NoSuchElementException;

/** A test for each sentence of the document's terms up to its texts: what is too small, too large, empty, full, refused. */
final class EdgesOfTermsTest {
    private static final Class<IndexOutOfBoundsException> NO_INDEX = IndexOutOfBoundsException.class;
    private static final Class<NoSuchElementException> NONE = NoSuchElementException.class;
    private static final int[] FAR_OFF = {Integer.MIN_VALUE, -1000, 1000, Integer.MAX_VALUE};

    private final Check check;
    private final Document document;

    EdgesOfTermsTest(Check check, Document document) {
        this.check = check;
        this.document = document;
    }

    void run() {
        test("No side burns that was turned.", this::turnedSides);
        test("Divisions are rounded down, unless something else is told.", this::divisions);
        test("At most 12 fish are there, numbered from 0; when one goes, the numbers of the later ones become 1 less.",
            this::twelveFish);
        test("A fish has a weight from 1 to 9, and salt from 0 to 9, at first 0; it lies outside, or in brine, or hangs on a hook.",
            this::weightAndSalt);
        test("It has the sides 0 and 1, each with smoke from 0 to 40 and char from 0 to 9, at first both 0; one of them is down,"
            + " at first the side 0.", this::twoSides);
        test("A side with char 9 is burnt, and so is the fish then.", this::burntSide);
        test("A day goes by for the fish in brine: each gets 2 more salt, up to 9.", this::brine);
        test("There are the racks 0 to 3, each with the hooks 0 to 9 in a row; a hook has one fish at most.",
            this::racksAndHooks);
        test("A fish needs a gap of 1, and 1 more for each 3 of its weight.", this::gap);
        test("Two fish on one rack hang as far apart as the numbers of their hooks; a fish is crowded if another one hangs nearer"
            + " than the gap which it needs.", this::apart);
        test("Logs burn, 0 to 12 of them, at first none, all of the same wood, 0 to 3, at first 0.", this::logsAndWood);
        test("The heat of a rack is the logs less the number of the rack, but not below 0.", this::heat);
        test("In an hour, for each fish that hangs, by what there is ahead of the hour: the side that is down gets as much smoke"
            + " as the heat of the rack and the number of the wood together, if there are logs, half of that if the fish is"
            + " crowded; and if the heat is greater than what the fish bears, which is 2 and a third of its salt, and the side"
            + " that is down was not turned down since the hour before, this side chars by as much as the heat is greater.",
            this::anHour);
        test("Then there is 1 log less, if there are any.", this::aLogLess);
        test("A side that was down at the beginning, or as a fish is hung, was not turned down.", this::notTurnedDown);
        test("To turn a fish lets its other side be down; this one is turned down until an hour has gone by.", this::turning);
        test("A fish is done if it is not burnt, and both its sides have no less smoke than 5 and its weight.", this::done);
        test("It is sold for its weight times 3, and its salt if this is not above 6.", this::price);
    }

    private void test(String sentence, Runnable test) {
        document.test(Document.TERMS, sentence, test);
    }

    private void turnedSides() {
        SmokeRacks house = Houses.smoking(1, 12, 3);
        for (int hour = 0; hour < 30; hour++) {
            if (hour % 3 == 0 && house.account(3) < 12) {
                house.logs(12 - house.account(3));
            }
            house.turn(0);
            check.due("burnt in an hour after it was turned", house.hours(1), 0);
            check.due("char of both", house.sideOf(0, 0, true) + house.sideOf(0, 1, true), 0);
        }
        house.logs(12 - house.account(3));
        check.due("burnt in an hour in which it was not", house.hours(1), 1);
        SmokeRacks rack = Houses.hanging(0, 1, 9);
        rack.logs(12);
        rack.turnAll(0);
        check.due("burnt after the rack was turned", rack.hours(1), 0);
        check.due("burnt as it was not", rack.hours(1), 2);
    }

    private void divisions() {
        check.due("a third of weight 2", Houses.with(2).fishOf(0, 8), 1 + 0);
        check.due("a third of weight 5", Houses.with(5).fishOf(0, 8), 1 + 1);
        check.due("a third of weight 8", Houses.with(8).fishOf(0, 8), 1 + 2);
        check.due("a third of salt 2", Houses.salted(1, 2, 1).fishOf(0, 7), 2 + 0);
        check.due("a third of salt 8", Houses.salted(1, 8, 1).fishOf(0, 7), 2 + 2);
        check.due("half of 1", crowdedSmoke(1, 0, 0), 0);
        check.due("half of 15", crowdedSmoke(12, 3, 0), 7);
    }

    /** The smoke of an hour of a fish that is crowded on this rack. */
    private static int crowdedSmoke(int logs, int wood, int rack) {
        SmokeRacks house = Houses.with(3, 3);
        house.hang(0, rack, 4);
        house.hang(1, rack, 5);
        house.logs(logs);
        if (wood > 0) {
            house.wood(wood);
        }
        house.hours(1);
        return house.sideOf(0, 0, false);
    }

    private void twelveFish() {
        SmokeRacks house = new SmokeRacks();
        for (int number = 0; number < 12; number++) {
            check.due("its number", house.fish(1 + number % 9), number);
        }
        check.refused("one too many", house, 2, 12, () -> house.fish(1));
        check.due("the last of them", house.fishOf(11, 0), 3);
        check.leaves("behind the last", house, NO_INDEX, () -> house.fishOf(12, 0));
        check.leaves("ahead of the first", house, NO_INDEX, () -> house.fishOf(-1, 0));
        house.hang(11, 3, 9);
        house.brine(10);
        house.throwAway(0);
        check.due("when the first goes: the last", house.at(3, 9), 10);
        check.due("when the first goes: in brine", house.fishOf(9, 2), 1);
        check.due("when the first goes: the new first", house.fishOf(0, 0), 2);
        check.leaves("there is one less", house, NO_INDEX, () -> house.fishOf(11, 0));
        house.throwAway(8);
        check.due("when one goes in the middle: later", house.at(3, 9), 9);
        check.due("when one goes in the middle: just later", house.fishOf(8, 2), 1);
        check.due("when one goes in the middle: earlier", house.fishOf(7, 0), 9);
        house.throwAway(9);
        check.leaves("when the last goes: its hook", house, NONE, () -> house.at(3, 9));
        check.due("when the last goes: earlier", house.fishOf(8, 2), 1);
        check.due("the next that comes", house.fish(4), 9);
        SmokeRacks sold = Houses.smoking(1, 12, 3);
        sold.fish(7);
        sold.turn(0);
        sold.hours(1);
        sold.turn(0);
        sold.hours(1);
        sold.sell(0);
        check.due("when one is sold", sold.fishOf(0, 0), 7);
        check.leaves("when one is sold: the later number", sold, NO_INDEX, () -> sold.fishOf(1, 0));
        theLastHasGone();
    }

    /** Nothing is counted, ranked or foretold of the fish that had the last number. */
    private void theLastHasGone() {
        SmokeRacks house = Houses.with(1, 9, 9);
        house.brine(1);
        house.day();
        house.throwAway(1);
        check.refused("in brine", house, 8, 0, house::day);
        house.brine(0);
        house.brine(house.fish(9));
        house.day();
        house.throwAway(2);
        check.due("salt in brine", house.day(), 4);
        house.out(0);
        house.hang(0, 0, 0);
        house.hang(1, 0, 1);
        house.logs(10);
        house.hours(1);
        house.throwAway(1);
        check.due("crowded", house.crowded(), 0);
        check.due("mean smoke", house.meanSmoke(), Float.floatToIntBits(10f / 2f));
        check.due("hottest", house.hottest(), 0);
        check.due("by weight", house.ranked(0, 0), 0);
        check.due("burnt", house.hours(1), 1);
        check.leaves("hottest of the burnt alone", house, NONE, house::hottest);
        house.throwAway(0);
        check.due("crowded in an emptied house", house.crowded(), 0);
        check.leaves("hottest in an emptied house", house, NONE, house::hottest);
    }

    private void weightAndSalt() {
        SmokeRacks house = new SmokeRacks();
        check.refused("weight 0", house, 1, 0, () -> house.fish(0));
        check.refused("weight 10", house, 1, 0, () -> house.fish(10));
        for (int weight : FAR_OFF) {
            check.refused("weight " + weight, house, 1, 0, () -> house.fish(weight));
        }
        for (int weight = 1; weight <= 9; weight++) {
            check.due("weight " + weight, house.fishOf(house.fish(weight), 0), weight);
            check.due("salt at first", house.fishOf(weight - 1, 1), 0);
        }
        house.brine(0);
        house.brine(8);
        house.hang(1, 0, 0);
        for (int time = 0; time < 9; time++) {
            house.day();
        }
        check.due("the most salt", house.fishOf(0, 1), 9);
        check.due("where they are", "" + house.fishOf(0, 2) + house.fishOf(1, 2) + house.fishOf(2, 2), "120");
        house.throwAway(8);
        check.due("in the place of a salted one", house.fish(3), 8);
        check.due("salt at first, and where it lies", house.fishOf(8, 1) * 10 + house.fishOf(8, 2), 0);
    }

    private void twoSides() {
        SmokeRacks house = Houses.smoking(9, 12, 3);
        check.due("at first", house.sideOf(0, 0, false) + house.sideOf(0, 0, true) + house.sideOf(0, 1, false)
            + house.sideOf(0, 1, true), 0);
        check.due("down at first", house.fishOf(0, 5), 0);
        for (int side : new int[] {-1, 2, Integer.MIN_VALUE, Integer.MAX_VALUE}) {
            check.leaves("side " + side, house, IllegalArgumentException.class, () -> house.sideOf(0, side, false));
        }
        house.hours(12);
        check.due("the most smoke of side 0", house.sideOf(0, 0, false), 40);
        check.due("the most char of side 0", house.sideOf(0, 0, true), 9);
        check.due("side 1 is left alone", house.sideOf(0, 1, false) + house.sideOf(0, 1, true), 0);
        house.logs(12);
        house.turn(0);
        house.hours(12);
        check.due("the most smoke of side 1", house.sideOf(0, 1, false), 40);
        check.due("the most char of side 1", house.sideOf(0, 1, true), 9);
        check.due("down", house.fishOf(0, 5), 1);
        house.throwAway(0);
        house.line(house.fish(4));
        check.due("in the place of a burnt one, at first", View.line(house), "4*0/0~0!/0~0");
    }

    private void burntSide() {
        SmokeRacks eight = Houses.smoking(1, 10, 0);
        check.due("burnt with char 8", eight.hours(1), 0);
        check.due("char 8", eight.sideOf(0, 0, true), 8);
        check.due("share with char 8", eight.burntShare(), 0.0);
        check.due("letter with char 8", View.line(eight, eight.rack(0)), "a.........");
        SmokeRacks nine = Houses.smoking(1, 11, 0);
        check.due("burnt with char 9", nine.hours(1), 1);
        check.due("char 9", nine.sideOf(0, 0, true), 9);
        check.due("share with char 9", nine.burntShare(), 1.0);
        check.due("letter with char 9", View.line(nine, nine.rack(0)), "A.........");
        SmokeRacks other = Houses.smoking(1, 12, 0);
        other.turn(0);
        other.hours(2);
        check.due("the side 1 alone", other.sideOf(0, 0, true) * 10 + other.sideOf(0, 1, true), 9);
        check.due("burnt on the side 1", other.burntShare(), 1.0);
    }

    private void brine() {
        SmokeRacks house = Houses.with(1, 1, 1, 1);
        house.brine(0);
        house.brine(3);
        house.hang(1, 0, 0);
        int[] salts = {2, 4, 6, 8, 9, 9};
        for (int salt : salts) {
            house.day();
            check.due("each in brine", house.fishOf(0, 1) * 10 + house.fishOf(3, 1), salt * 11);
        }
        check.due("on a hook, and outside", house.fishOf(1, 1) + house.fishOf(2, 1), 0);
        house.out(0);
        house.out(3);
        check.refused("with none in brine", house, 8, 0, house::day);
    }

    private void racksAndHooks() {
        SmokeRacks house = Houses.with(1, 1);
        for (int rack = 0; rack < 4; rack++) {
            for (int hook = 0; hook < 10; hook++) {
                house.hang(0, rack, hook);
                int there = hook;
                int where = rack;
                check.due("on " + rack + "/" + hook, house.at(rack, hook), 0);
                check.refused("a second one on " + rack + "/" + hook, house, 6, 0, () -> house.hang(1, where, there));
                house.out(0);
            }
        }
        for (int bad : new int[] {-1, 4, Integer.MIN_VALUE, Integer.MAX_VALUE}) {
            check.refused("rack " + bad, house, 1, 0, () -> house.hang(0, bad, 0));
        }
        for (int bad : new int[] {-1, 10, Integer.MIN_VALUE, Integer.MAX_VALUE}) {
            check.refused("hook " + bad, house, 1, 0, () -> house.hang(0, 0, bad));
        }
    }

    private void gap() {
        int[] gaps = {1, 1, 2, 2, 2, 3, 3, 3, 4};
        for (int weight = 1; weight <= 9; weight++) {
            check.due("gap of weight " + weight, Houses.with(weight).fishOf(0, 8), gaps[weight - 1]);
        }
    }

    private void apart() {
        SmokeRacks house = Houses.with(9, 6, 1);
        house.hang(0, 0, 0);
        house.hang(1, 0, 9);
        check.due("the ends of a row are far apart", house.nearest(0) * 10 + house.nearest(1), 99);
        check.due("and not crowded", house.crowded(), 0);
        house.hang(2, 1, 0);
        check.leaves("the end of a row and the begin of the next", house, NONE, () -> house.nearest(2));
        check.due("are not near", house.isCrowded(1), false);
        check.due("just the gap of 9", crowdedAt(4), "00");
        check.due("nearer than the gap of 9", crowdedAt(3), "10");
        check.due("just the gap of 6", crowdedAt(3), "10");
        check.due("nearer than both gaps", crowdedAt(2), "11");
        check.due("side by side", crowdedAt(1), "11");
    }

    /** Whether a fish of 9, and one of 6 so far beside it, are crowded. */
    private static String crowdedAt(int apart) {
        SmokeRacks house = Houses.with(9, 6);
        house.hang(0, 2, 9);
        house.hang(1, 2, 9 - apart);
        return (house.isCrowded(0) ? "1" : "0") + (house.isCrowded(1) ? "1" : "0");
    }

    private void logsAndWood() {
        SmokeRacks house = new SmokeRacks();
        check.due("at first", house.account(3) + house.account(4), 0);
        check.refused("the wood 0 at first", house, 9, 0, () -> house.wood(0));
        house.logs(11);
        check.refused("13 in all", house, 2, 12, () -> house.logs(2));
        check.due("12 in all", house.logs(1), 12);
        check.refused("1 above 12", house, 2, 12, () -> house.logs(1));
        check.due("the wood 3", house.wood(3), 0);
        check.due("all are of it", house.account(4), 3);
        check.refused("the wood 4", house, 1, 0, () -> house.wood(4));
        check.refused("the wood -1", house, 1, 0, () -> house.wood(-1));
        for (int wood : FAR_OFF) {
            check.refused("the wood " + wood, house, 1, 0, () -> house.wood(wood));
        }
        check.due("the wood 0", house.wood(0), 3);
    }

    private void heat() {
        SmokeRacks house = new SmokeRacks();
        for (int logs = 0; logs <= 12; logs++) {
            for (int rack = 0; rack < 4; rack++) {
                check.due("heat of " + rack + " with " + logs, house.heat(rack), logs < rack ? 0 : logs - rack);
            }
            if (logs < 12) {
                house.logs(1);
            }
        }
    }

    private void anHour() {
        check.due("without logs, though there is wood", hour(0, 3, 0, false), "0~0");
        check.due("with a log below the rack 1", hour(1, 0, 1, false), "0~0");
        check.due("with a log below the rack 3, and wood", hour(1, 3, 3, false), "3~0");
        check.due("with just the heat it bears", hour(2, 0, 0, false), "2~0");
        check.due("with just the heat it bears on the rack 3", hour(5, 0, 3, false), "2~0");
        check.due("with 1 more than it bears", hour(3, 0, 0, false), "3~1");
        check.due("wood is no heat", hour(2, 3, 0, false), "5~0");
        check.due("with the most there is", hour(12, 3, 0, false), "15~9");
        check.due("turned down", hour(12, 3, 0, true), "15~0");
        check.due("half for the crowded", crowdedSmoke(12, 3, 3), 6);
        SmokeRacks close = Houses.with(9, 1);
        close.hang(0, 0, 4);
        close.hang(1, 0, 6);
        close.logs(5);
        close.wood(2);
        close.hours(2);
        check.due("whole char for the crowded, and half smoke hour by hour", View.line(close, close.line(0)), "9*0/6~5!/0~0");
        check.due("whole smoke for the one that is not", View.line(close, close.line(1)), "1*0/13~5!/0~0");
        SmokeRacks salted = Houses.salted(1, 9, 5);
        salted.hours(1);
        check.due("salt 9 bears 5", salted.sideOf(0, 0, true), 0);
        SmokeRacks hotter = Houses.salted(1, 9, 6);
        hotter.hours(1);
        check.due("salt 9 does not bear 6", hotter.sideOf(0, 0, true), 1);
        SmokeRacks house = Houses.with(1, 1, 1);
        house.brine(1);
        house.hang(2, 0, 0);
        house.logs(12);
        house.hours(1);
        check.due("not for one outside", View.line(house, house.line(0)), "1*0/0~0!/0~0");
        check.due("not for one in brine", View.line(house, house.line(1)), "1*0/0~0!/0~0");
        check.due("not for the side that is up", house.sideOf(2, 1, false) + house.sideOf(2, 1, true), 0);
        check.due("all by the logs ahead of the hour, the last too", sumOfAnHourEach(), "3 3 3");
    }

    private static String hour(int logs, int wood, int rack, boolean isTurned) {
        SmokeRacks house = Houses.hanging(rack, 1);
        if (logs > 0) {
            house.logs(logs);
        }
        if (wood > 0) {
            house.wood(wood);
        }
        if (isTurned) {
            house.turn(0);
        }
        house.hours(1);
        int side = house.fishOf(0, 5);
        return house.sideOf(0, side, false) + "~" + house.sideOf(0, side, true);
    }

    private static String sumOfAnHourEach() {
        SmokeRacks house = Houses.hanging(0, 1, 1, 1);
        house.logs(3);
        house.hours(1);
        return house.sideOf(0, 0, false) + " " + house.sideOf(1, 0, false) + " " + house.sideOf(2, 0, false);
    }

    private void aLogLess() {
        SmokeRacks house = new SmokeRacks();
        house.hours(1);
        check.due("of none", house.account(3), 0);
        house.logs(2);
        house.hours(1);
        check.due("of 2", house.account(3), 1);
        house.hours(1);
        check.due("of 1", house.account(3), 0);
        house.hours(1);
        check.due("of none again", house.account(3), 0);
        house.logs(12);
        house.hours(11);
        check.due("of 12 in 11 hours", house.account(3), 1);
        house.hours(24);
        check.due("of 1 in 24 hours", house.account(3), 0);
    }

    private void notTurnedDown() {
        SmokeRacks house = Houses.smoking(1, 3, 0);
        check.due("at the beginning", house.fishOf(0, 6), 0);
        house.hours(1);
        check.due("it chars", house.sideOf(0, 0, true), 1);
        house.turn(0);
        house.out(0);
        house.hang(0, 0, 0);
        house.logs(1);
        check.due("as it is hung", house.fishOf(0, 5) * 10 + house.fishOf(0, 6), 10);
        house.hours(1);
        check.due("it chars too", house.sideOf(0, 1, true), 1);
    }

    private void turning() {
        SmokeRacks house = Houses.smoking(1, 12, 0);
        check.due("before", house.fishOf(0, 5) * 10 + house.fishOf(0, 6), 0);
        house.turn(0);
        check.due("turned", house.fishOf(0, 5) * 10 + house.fishOf(0, 6), 11);
        house.turn(0);
        check.due("turned twice", house.fishOf(0, 5) * 10 + house.fishOf(0, 6), 1);
        house.hours(1);
        check.due("an hour has gone by", house.fishOf(0, 5) * 10 + house.fishOf(0, 6), 0);
        check.due("it did not char in it", house.sideOf(0, 0, true), 0);
        check.due("it got smoke in it", house.sideOf(0, 0, false), 12);
        house.hours(1);
        check.due("it chars in the next", house.sideOf(0, 0, true), 9);
    }

    private void done() {
        for (int weight = 1; weight <= 9; weight++) {
            check.due("just enough, weight " + weight, smokedFor(weight, 5 + weight, 5 + weight), true);
            check.due("1 lacks on 0, weight " + weight, smokedFor(weight, 4 + weight, 5 + weight), false);
            check.due("1 lacks on 1, weight " + weight, smokedFor(weight, 5 + weight, 4 + weight), false);
        }
        SmokeRacks burnt = Houses.smoking(1, 12, 3);
        burnt.hours(1);
        burnt.turn(0);
        burnt.hours(1);
        check.due("burnt with more than enough", burnt.isDone(0), false);
    }

    /** Whether a fish is done that gets this smoke on both sides, by 1 log and 1 smoke an hour. */
    private static boolean smokedFor(int weight, int first, int second) {
        SmokeRacks house = Houses.hanging(0, weight);
        for (int hour = 0; hour < first + second; hour++) {
            if (hour == first) {
                house.turn(0);
            }
            house.logs(1);
            house.hours(1);
        }
        return house.isDone(0);
    }

    private void price() {
        int[] salts = {0, 2, 4, 6, 8, 9};
        int[] prices = {3, 5, 7, 9, 3, 3};
        for (int i = 0; i < salts.length; i++) {
            check.due("weight 1, salt " + salts[i], soldFor(1, salts[i]), prices[i]);
        }
        check.due("weight 9, salt 6", soldFor(9, 6), 33);
        check.due("weight 9, salt 9", soldFor(9, 9), 27);
    }

    private static int soldFor(int weight, int salt) {
        SmokeRacks house = Houses.salted(weight, salt, 12);
        for (int hour = 0; hour < 4; hour++) {
            house.turn(0);
            house.hours(1);
        }
        return house.sell(0);
    }
}
