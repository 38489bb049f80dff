/** Promises 1 to 13: what changes the house. */
final class ChangesTest {
    private final Check check;

    ChangesTest(Check check) {
        this.check = check;
    }

    void run() {
        newObject();
        fish();
        brine();
        out();
        hang();
        turn();
        turnAll();
        logs();
        wood();
        day();
        hours();
        smokeOfAnHour();
        charOfAnHour();
        sell();
        throwAway();
        nothingLeftBehind();
    }

    private void newObject() {
        check.promise(1, "a new object");
        SmokeRacks house = new SmokeRacks();
        for (int what = 0; what < 12; what++) {
            check.due("account(" + what + ")", house.account(what), 0);
        }
        check.due("faultPosition()", house.faultPosition(), -1);
        for (int rack = 0; rack < 4; rack++) {
            check.due("heat(" + rack + ")", house.heat(rack), 0);
        }
        SmokeRacks other = Houses.with(3);
        check.due("fish of another object", new SmokeRacks().account(0), 0);
        check.due("fish of this object", other.account(0), 1);
    }

    private void fish() {
        check.promise(2, "fish");
        SmokeRacks house = new SmokeRacks();
        check.refused("fish(0)", house, 1, 0, () -> house.fish(0));
        check.refused("fish(10)", house, 1, 0, () -> house.fish(10));
        check.refused("fish(-1)", house, 1, 0, () -> house.fish(-1));
        check.due("fish(1)", house.fish(1), 0);
        check.due("fish(9)", house.fish(9), 1);
        check.due("weight", house.fishOf(1, 0), 9);
        check.due("a fish at first", View.of(house),
            "2 0 0 0 0 0 0 0 0 0 |1 0 0 -1 -1 0 0 2 1 0~0 0~0 |9 0 0 -1 -1 0 0 2 4 0~0 0~0  undo 2");
        for (int number = 2; number < 12; number++) {
            check.due("fish(5)", house.fish(5), number);
        }
        check.refused("a 13th fish", house, 2, 12, () -> house.fish(5));
        check.refused("a 13th fish of weight 10", house, 1, 0, () -> house.fish(10));
        house.throwAway(3);
        check.due("a fish after one has gone", house.fish(2), 11);
    }

    private void brine() {
        check.promise(3, "brine");
        SmokeRacks house = Houses.with(1, 2, 3);
        check.due("brine(2)", house.brine(2), 1);
        check.due("brine(0)", house.brine(0), 2);
        check.due("where it is", house.fishOf(0, 2), 1);
        house.hang(1, 2, 7);
        check.refused("brine of no fish", house, 3, 3, () -> house.brine(3));
        check.refused("brine(-1)", house, 3, 3, () -> house.brine(-1));
        check.refused("brine of one in brine", house, 4, 1, () -> house.brine(2));
        check.refused("brine of one on a hook", house, 4, 2, () -> house.brine(1));
        SmokeRacks empty = new SmokeRacks();
        check.refused("brine in an empty house", empty, 3, 0, () -> empty.brine(0));
    }

    private void out() {
        check.promise(4, "out");
        SmokeRacks house = Houses.with(1, 2);
        house.brine(0);
        house.day();
        house.day();
        check.due("out of brine", house.out(0), 4);
        check.due("where it is", house.fishOf(0, 2), 0);
        check.refused("out of one outside", house, 5, 0, () -> house.out(0));
        check.refused("out of the other", house, 5, 1, () -> house.out(1));
        check.refused("out of no fish", house, 3, 2, () -> house.out(2));
        check.refused("out(-1)", house, 3, 2, () -> house.out(-1));

        SmokeRacks smoking = Houses.smoking(2, 5, 1);
        smoking.hours(1);
        smoking.turn(0);
        check.due("turned down", smoking.fishOf(0, 6), 1);
        check.due("off its hook", smoking.out(0), 0);
        check.due("it keeps its sides, but is not turned down any more", View.of(smoking),
            "1 0 0 4 1 1 0 0 0 0 |2 0 0 -1 -1 1 0 2 1 6~3 0~0  undo 7");
        check.raises("its hook is free", java.util.NoSuchElementException.class, () -> smoking.at(0, 0));
    }

    private void hang() {
        check.promise(5, "hang");
        SmokeRacks house = Houses.with(1, 2, 3, 4);
        check.due("hang(0, 3, 9)", house.hang(0, 3, 9), 1);
        check.due("hang(1, 3, 0)", house.hang(1, 3, 0), 2);
        check.due("hang(2, 0, 9)", house.hang(2, 0, 9), 1);
        check.due("rack and hook", house.fishOf(0, 3) * 10 + house.fishOf(0, 4), 39);
        check.due("where it is", house.fishOf(0, 2), 2);
        check.refused("a rack too great", house, 1, 0, () -> house.hang(3, 4, 0));
        check.refused("a rack below 0", house, 1, 0, () -> house.hang(3, -1, 0));
        check.refused("a hook too great", house, 1, 0, () -> house.hang(3, 0, 10));
        check.refused("a hook below 0", house, 1, 0, () -> house.hang(3, 0, -1));
        check.refused("a rack out of range comes first", house, 1, 0, () -> house.hang(4, 4, 0));
        check.refused("a hook out of range comes first", house, 1, 0, () -> house.hang(0, 0, 10));
        check.refused("no such fish", house, 3, 4, () -> house.hang(4, 0, 9));
        check.refused("no such fish below 0", house, 3, 4, () -> house.hang(-1, 0, 9));
        check.refused("a fish that hangs", house, 4, 2, () -> house.hang(0, 0, 9));
        check.refused("a taken hook", house, 6, 0, () -> house.hang(3, 3, 9));
        check.refused("another taken hook", house, 6, 2, () -> house.hang(3, 0, 9));
        house.brine(3);
        check.refused("a fish in brine", house, 4, 1, () -> house.hang(3, 0, 9));
        house.out(3);
        check.due("after brine", house.hang(3, 3, 8), 3);
        house.turn(3);
        house.out(3);
        house.hang(3, 3, 8);
        check.due("the side that is down stays", house.fishOf(3, 5), 1);
        check.due("as it is hung, it was not turned down", house.fishOf(3, 6), 0);
    }

    private void turn() {
        check.promise(6, "turn");
        SmokeRacks house = Houses.hanging(1, 4, 5);
        house.fish(6);
        house.fish(7);
        house.brine(3);
        check.due("turn(0)", house.turn(0), 1);
        check.due("turned down", house.fishOf(0, 6), 1);
        check.due("the other is not", house.fishOf(1, 6) + house.fishOf(1, 5), 0);
        check.due("turn(0) back", house.turn(0), 0);
        check.due("turned down again", house.fishOf(0, 6), 1);
        house.hours(1);
        check.due("until an hour has gone by", house.fishOf(0, 6), 0);
        check.refused("no such fish", house, 3, 4, () -> house.turn(4));
        check.refused("no such fish below 0", house, 3, 4, () -> house.turn(-1));
        check.refused("a fish outside", house, 7, 0, () -> house.turn(2));
        check.refused("a fish in brine", house, 7, 1, () -> house.turn(3));
        SmokeRacks burnt = Houses.smoking(3, 12, 0);
        burnt.hours(1);
        check.due("a burnt fish can be turned", burnt.turn(0), 1);
    }

    private void turnAll() {
        check.promise(7, "turnAll");
        SmokeRacks house = Houses.hanging(2, 1, 2, 3);
        house.fish(4);
        house.hang(3, 1, 0);
        house.fish(5);
        house.turn(1);
        check.due("turnAll(2)", house.turnAll(2), 3);
        check.due("sides down", "" + house.fishOf(0, 5) + house.fishOf(1, 5) + house.fishOf(2, 5) + house.fishOf(3, 5), "1010");
        check.due("turned down", "" + house.fishOf(0, 6) + house.fishOf(1, 6) + house.fishOf(2, 6) + house.fishOf(3, 6), "1110");
        check.due("a fish outside stays", house.fishOf(4, 5), 0);
        check.refused("an empty rack", house, 8, 0, () -> house.turnAll(0));
        check.refused("no such rack", house, 1, 0, () -> house.turnAll(4));
        check.refused("no such rack below 0", house, 1, 0, () -> house.turnAll(-1));
    }

    private void logs() {
        check.promise(8, "logs");
        SmokeRacks house = new SmokeRacks();
        check.refused("logs(0)", house, 1, 0, () -> house.logs(0));
        check.refused("logs(13)", house, 1, 0, () -> house.logs(13));
        check.refused("logs(-1)", house, 1, 0, () -> house.logs(-1));
        check.refused("logs(max)", house, 1, 0, () -> house.logs(Integer.MAX_VALUE));
        check.due("logs(5)", house.logs(5), 5);
        check.refused("logs(8)", house, 2, 12, () -> house.logs(8));
        check.due("logs(7)", house.logs(7), 12);
        check.refused("one more", house, 2, 12, () -> house.logs(1));
        check.refused("13 more", house, 1, 0, () -> house.logs(13));
        check.due("12 at once", new SmokeRacks().logs(12), 12);
    }

    private void wood() {
        check.promise(9, "wood");
        SmokeRacks house = new SmokeRacks();
        check.refused("the wood at first", house, 9, 0, () -> house.wood(0));
        check.due("wood(3)", house.wood(3), 0);
        check.refused("wood(3) again", house, 9, 3, () -> house.wood(3));
        check.refused("wood(4)", house, 1, 0, () -> house.wood(4));
        check.refused("wood(-1)", house, 1, 0, () -> house.wood(-1));
        check.due("wood(1)", house.wood(1), 3);
        check.due("account(4)", house.account(4), 1);
    }

    private void day() {
        check.promise(10, "day");
        SmokeRacks house = Houses.with(1, 2, 3);
        check.refused("none in brine", house, 8, 0, house::day);
        house.brine(0);
        check.due("a day", house.day(), 2);
        house.brine(2);
        check.due("a day of two", house.day(), 6);
        house.day();
        check.due("a fourth day", house.day(), 14);
        check.due("salt is held at 9", house.day(), 17);
        check.due("salt is held at 9 again", house.day(), 18);
        check.due("a fish outside gets none", house.fishOf(1, 1), 0);
        house.out(0);
        check.due("only those in brine count", house.day(), 9);
        check.due("days so far", house.account(6), 7);
        check.due("hours so far", house.account(5), 0);
    }

    private void hours() {
        check.promise(11, "hours");
        SmokeRacks house = Houses.smoking(3, 12, 2);
        check.refused("hours(0)", house, 1, 0, () -> house.hours(0));
        check.refused("hours(25)", house, 1, 0, () -> house.hours(25));
        check.refused("hours(-1)", house, 1, 0, () -> house.hours(-1));
        house.fish(4);
        house.hang(1, 3, 0);
        check.due("hours(1): one is burnt", house.hours(1), 1);
        check.due("a log less", house.account(3), 11);
        check.due("hours(24): both are burnt", house.hours(24), 2);
        check.due("no logs below 0", house.account(3), 0);
        check.due("hours so far", house.account(5), 25);
        house.out(0);
        check.due("burnt fish off their hooks count", house.hours(2), 2);

        SmokeRacks cold = Houses.smoking(3, 0, 3);
        cold.turn(0);
        check.due("hours without logs", cold.hours(3), 0);
        check.due("let nothing happen, but go by", View.of(cold),
            "1 0 1 0 3 3 0 0 0 0 |3 0 2 0 0 1 0 2 2 0~0 0~0  undo 5");
    }

    private void smokeOfAnHour() {
        check.promise(11, "smoke of an hour");
        SmokeRacks house = Houses.hanging(0, 1);
        for (int rack = 1; rack < 4; rack++) {
            house.fish(1);
            house.hang(rack, rack, 0);
        }
        house.fish(1);
        house.fish(1);
        house.brine(5);
        house.logs(2);
        house.wood(3);
        house.hours(1);
        check.due("by the heat of the racks, and the wood also where there is none", smokes(house, 0), "5 4 3 3 0 0");
        house.turn(1);
        house.hours(1);
        check.due("on the side that is down", smokes(house, 0), "9 4 6 6 0 0");
        check.due("and not on the other", smokes(house, 1), "0 3 0 0 0 0");
        house.hours(1);
        check.due("none without logs", smokes(house, 0), "9 4 6 6 0 0");

        SmokeRacks close = Houses.with(2, 3, 9);
        close.hang(0, 1, 3);
        close.hang(1, 1, 4);
        close.hang(2, 1, 7);
        close.logs(4);
        close.wood(2);
        close.hours(1);
        check.due("half of it, rounded down, for those that are crowded", smokes(close, 0), "5 2 2");
        check.due("their char is not halved", close.sideOf(1, 0, true), 1);

        SmokeRacks much = Houses.smoking(9, 12, 3);
        much.hours(2);
        check.due("smoke of two hours", much.sideOf(0, 0, false), 29);
        much.hours(1);
        check.due("smoke is held at 40", much.sideOf(0, 0, false), 40);
        SmokeRacks burnt = Houses.smoking(9, 12, 0);
        burnt.hours(1);
        burnt.turn(0);
        burnt.hours(2);
        check.due("a burnt fish gets smoke", burnt.sideOf(0, 1, false), 21);
        check.due("and chars on", burnt.sideOf(0, 1, true), 8);
    }

    private void charOfAnHour() {
        check.promise(11, "char of an hour");
        check.due("heat 2 is borne", charAfter(Houses.smoking(1, 2, 3), 1), 0);
        check.due("heat 3 is not", charAfter(Houses.smoking(1, 3, 3), 1), 1);
        check.due("by the heat ahead of each hour", charAfter(Houses.smoking(1, 5, 0), 2), 5);
        check.due("until all is borne", charAfter(Houses.smoking(1, 5, 0), 24), 6);
        check.due("salt 2 lets no more be borne", charAfter(Houses.salted(1, 2, 3), 1), 1);
        check.due("salt 4 lets 1 more be borne", charAfter(Houses.salted(1, 4, 4), 1), 1);
        check.due("salt 6 lets 2 more be borne", charAfter(Houses.salted(1, 6, 5), 1), 1);
        check.due("salt 9 lets 3 more be borne", charAfter(Houses.salted(1, 9, 6), 1), 1);
        check.due("char is held at 9", charAfter(Houses.smoking(1, 12, 0), 1), 9);
        check.due("char 8 is not burnt", Houses.smoking(1, 10, 0).hours(1), 0);
        check.due("char 9 is burnt", Houses.smoking(1, 11, 0).hours(1), 1);
        SmokeRacks turned = Houses.smoking(1, 9, 0);
        turned.turn(0);
        turned.hours(1);
        check.due("a side that was turned down does not char", turned.sideOf(0, 1, true), 0);
        check.due("but gets smoke", turned.sideOf(0, 1, false), 9);
        turned.hours(1);
        check.due("until an hour has gone by", turned.sideOf(0, 1, true), 6);
        SmokeRacks twice = Houses.smoking(1, 9, 0);
        twice.turn(0);
        twice.hours(2);
        check.due("in the second of two hours too", twice.sideOf(0, 1, true), 6);
        SmokeRacks again = Houses.smoking(1, 9, 0);
        again.turn(0);
        again.out(0);
        again.hang(0, 1, 0);
        again.hours(1);
        check.due("hung again it chars", again.sideOf(0, 1, true), 6);
    }

    private void sell() {
        check.promise(12, "sell");
        SmokeRacks house = Houses.smoking(2, 4, 3);
        check.refused("smoke lacks on both sides", house, 10, 14, () -> house.sell(0));
        house.hours(1);
        check.refused("smoke lacks on the second alone", house, 10, 7, () -> house.sell(0));
        house.turn(0);
        house.hours(1);
        house.fish(5);
        check.due("no less smoke than 5 and its weight", house.sideOf(0, 1, false), 6);
        check.refused("1 lacks", house, 10, 1, () -> house.sell(0));
        house.hours(1);
        check.refused("no such fish", house, 3, 2, () -> house.sell(2));
        check.refused("no such fish below 0", house, 3, 2, () -> house.sell(-1));
        check.refused("one outside without smoke", house, 10, 20, () -> house.sell(1));
        check.due("sell(0)", house.sell(0), 6);
        check.due("the later fish is the first now", house.fishOf(0, 0), 5);
        check.due("fish, sold, earned, thrown", accounts(house), "1 1 6 0");
        house.hang(0, 3, 0);
        for (int hour = 0; hour < 12 && !house.isDone(0); hour++) {
            house.logs(4 - house.account(3));
            house.turn(0);
            house.hours(1);
        }
        check.due("sell(0) again", house.sell(0), 15);
        check.due("sold and earned add up", accounts(house), "0 2 21 0");
        check.due("salt 6 is paid", soldAt(6), 27 + 6);
        check.due("salt 8 is not", soldAt(8), 27);
        SmokeRacks burnt = Houses.smoking(2, 12, 3);
        burnt.hours(1);
        check.refused("a burnt fish", burnt, 10, 100, () -> burnt.sell(0));
        burnt.turn(0);
        burnt.hours(1);
        check.refused("a burnt fish with smoke enough", burnt, 10, 100, () -> burnt.sell(0));
    }

    private void throwAway() {
        check.promise(13, "throwAway");
        SmokeRacks house = Houses.hanging(3, 4, 5, 6);
        house.fish(7);
        house.brine(3);
        house.turn(2);
        check.refused("no such fish", house, 3, 4, () -> house.throwAway(4));
        check.refused("no such fish below 0", house, 3, 4, () -> house.throwAway(-1));
        check.due("throwAway(1)", house.throwAway(1), 5);
        check.due("the numbers of the later ones become 1 less", View.of(house),
            "3 1 2 0 0 0 0 0 0 1 |4 0 2 3 0 0 0 2 2 0~0 0~0 |6 0 2 3 8 1 1 2 3 0~0 0~0 |7 0 1 -1 -1 0 0 2 3 0~0 0~0  undo 8");
        check.due("the last one", house.throwAway(2), 7);
        check.due("the first one", house.throwAway(0), 4);
        check.due("the one that is left", house.throwAway(0), 6);
        check.due("fish, sold, earned, thrown", accounts(house), "0 0 0 4");
        check.refused("of none", house, 3, 0, () -> house.throwAway(0));
    }

    private void nothingLeftBehind() {
        check.promise(13, "a fish that has gone leaves nothing behind");
        SmokeRacks house = Houses.salted(5, 8, 12);
        house.hours(1);
        house.turn(0);
        house.hours(2);
        house.throwAway(0);
        house.fish(3);
        check.due("a new fish with the same number", View.of(house),
            "1 0 0 9 0 3 4 0 0 1 |3 0 0 -1 -1 0 0 2 2 0~0 0~0  undo 8");

        SmokeRacks last = Houses.with(1, 2, 9);
        last.brine(0);
        last.brine(2);
        last.day();
        last.throwAway(2);
        check.due("salt in brine", last.day(), 4);
        last.fish(9);
        last.hang(1, 0, 0);
        last.hang(2, 0, 1);
        last.logs(12);
        last.hours(1);
        last.throwAway(2);
        last.turn(1);
        last.out(1);
        check.due("burnt ones", last.hours(1), 1);
        last.hang(1, 0, 1);
        check.raises("its hook is free", java.util.NoSuchElementException.class, () -> last.at(0, 0));
        check.raises("it is near to none", java.util.NoSuchElementException.class, () -> last.nearest(1));
        check.due("turned with the rack", last.turnAll(0), 1);
    }

    /** What a fish of weight 9 with this salt is sold for, smoked gently in turns. */
    private static int soldAt(int salt) {
        SmokeRacks house = Houses.salted(9, salt, 12);
        for (int hour = 0; hour < 4; hour++) {
            house.turn(0);
            house.hours(1);
        }
        return house.sell(0);
    }

    private static int charAfter(SmokeRacks house, int hours) {
        house.hours(hours);
        return house.sideOf(0, 0, true);
    }

    private static String smokes(SmokeRacks house, int side) {
        StringBuilder text = new StringBuilder();
        for (int fish = 0; fish < house.account(0); fish++) {
            text.append(fish == 0 ? "" : " ").append(house.sideOf(fish, side, false));
        }
        return text.toString();
    }

    private static String accounts(SmokeRacks house) {
        return house.account(0) + " " + house.account(7) + " " + house.account(8) + " " + house.account(9);
    }
}
