import java.util.NoSuchElementException;

/** Promises 14 to 28: what is asked of the house. */
final class QuestionsTest {
    private static final Class<IndexOutOfBoundsException> NO_INDEX = IndexOutOfBoundsException.class;
    private static final Class<IllegalArgumentException> BAD = IllegalArgumentException.class;
    private static final Class<NoSuchElementException> NONE = NoSuchElementException.class;

    private final Check check;

    QuestionsTest(Check check) {
        this.check = check;
    }

    void run() {
        fishOf();
        sideOf();
        at();
        heat();
        nearest();
        isCrowded();
        isDone();
        wouldChar();
        burnsIn();
        doneIn();
        hottest();
        bestHook();
        crowded();
        ranked();
    }

    private void fishOf() {
        check.promise(14, "fishOf");
        SmokeRacks house = Houses.with(8, 9);
        house.brine(1);
        house.day();
        house.day();
        house.hang(0, 3, 6);
        house.turn(0);
        check.due("numbers of one that hangs", numbers(house, 0), "8 0 2 3 6 1 1 2 3 ");
        check.due("numbers of one in brine", numbers(house, 1), "9 4 1 -1 -1 0 0 3 4 ");
        for (int weight = 1; weight <= 9; weight++) {
            check.due("gap of " + weight, Houses.with(weight).fishOf(0, 8), 1 + weight / 3);
        }
        check.due("heat borne with salt 2", Houses.salted(1, 2, 1).fishOf(0, 7), 2);
        check.due("heat borne with salt 6", Houses.salted(1, 6, 1).fishOf(0, 7), 4);
        check.due("heat borne with salt 8", Houses.salted(1, 8, 1).fishOf(0, 7), 4);
        check.due("heat borne with salt 9", Houses.salted(1, 9, 1).fishOf(0, 7), 5);
        check.raises("fishOf(2, 0)", NO_INDEX, () -> house.fishOf(2, 0));
        check.raises("fishOf(-1, 0)", NO_INDEX, () -> house.fishOf(-1, 0));
        check.raises("fishOf(2, 9)", NO_INDEX, () -> house.fishOf(2, 9));
        check.raises("fishOf(0, 9)", BAD, () -> house.fishOf(0, 9));
        check.raises("fishOf(0, -1)", BAD, () -> house.fishOf(0, -1));
    }

    private void sideOf() {
        check.promise(15, "sideOf");
        SmokeRacks house = Houses.smoking(4, 5, 2);
        house.hours(1);
        house.turn(0);
        house.hours(2);
        check.due("smoke of 0", house.sideOf(0, 0, false), 7);
        check.due("char of 0", house.sideOf(0, 0, true), 3);
        check.due("smoke of 1", house.sideOf(0, 1, false), 11);
        check.due("char of 1", house.sideOf(0, 1, true), 1);
        check.raises("sideOf(1, 0)", NO_INDEX, () -> house.sideOf(1, 0, true));
        check.raises("sideOf(-1, 2)", NO_INDEX, () -> house.sideOf(-1, 2, false));
        check.raises("sideOf(0, 2)", BAD, () -> house.sideOf(0, 2, false));
        check.raises("sideOf(0, -1)", BAD, () -> house.sideOf(0, -1, true));
    }

    private void at() {
        check.promise(16, "at");
        SmokeRacks house = Houses.with(1, 1, 1);
        house.hang(2, 3, 9);
        house.hang(1, 0, 0);
        check.due("at(3, 9)", house.at(3, 9), 2);
        check.due("at(0, 0)", house.at(0, 0), 1);
        check.raises("a free hook", NONE, () -> house.at(0, 9));
        check.raises("the same hook of another rack", NONE, () -> house.at(1, 0));
        check.raises("at(4, 0)", NO_INDEX, () -> house.at(4, 0));
        check.raises("at(-1, 0)", NO_INDEX, () -> house.at(-1, 0));
        check.raises("at(-1, -1)", NO_INDEX, () -> house.at(-1, -1));
        check.raises("at(0, 10)", NO_INDEX, () -> house.at(0, 10));
        check.raises("at(0, -1)", NO_INDEX, () -> house.at(0, -1));
        house.throwAway(0);
        check.due("after one has gone", house.at(3, 9), 1);
        house.out(1);
        check.raises("after it was taken off", NONE, () -> house.at(3, 9));
    }

    private void heat() {
        check.promise(17, "heat");
        SmokeRacks house = new SmokeRacks();
        house.logs(2);
        check.due("heats", "" + house.heat(0) + house.heat(1) + house.heat(2) + house.heat(3), "2100");
        house.logs(10);
        house.wood(3);
        check.due("heats of 12", house.heat(0) + " " + house.heat(1) + " " + house.heat(2) + " " + house.heat(3), "12 11 10 9");
        check.raises("heat(4)", NO_INDEX, () -> house.heat(4));
        check.raises("heat(-1)", NO_INDEX, () -> house.heat(-1));
    }

    private void nearest() {
        check.promise(18, "nearest");
        SmokeRacks house = Houses.with(1, 1, 1, 1, 1);
        house.hang(0, 0, 0);
        house.hang(1, 0, 9);
        house.hang(2, 1, 1);
        house.brine(4);
        check.due("both ends", house.nearest(0) * 10 + house.nearest(1), 99);
        house.hang(3, 0, 7);
        check.due("of two the nearer", "" + house.nearest(0) + house.nearest(1) + house.nearest(3), "722");
        check.raises("alone on its rack", NONE, () -> house.nearest(2));
        check.raises("in brine", NONE, () -> house.nearest(4));
        check.raises("no such fish", NO_INDEX, () -> house.nearest(5));
        check.raises("no such fish below 0", NO_INDEX, () -> house.nearest(-1));
        house.out(3);
        check.raises("outside", NONE, () -> house.nearest(3));
    }

    private void isCrowded() {
        check.promise(19, "isCrowded");
        for (int weight = 1; weight <= 9; weight++) {
            for (int apart = 1; apart <= 4; apart++) {
                SmokeRacks house = Houses.with(weight, 1);
                house.hang(0, 2, 5);
                house.hang(1, 2, apart % 2 == 0 ? 5 + apart : 5 - apart);
                check.due("weight " + weight + ", " + apart + " apart", house.isCrowded(0), apart < 1 + weight / 3);
                check.due("the other one", house.isCrowded(1), false);
            }
        }
        SmokeRacks house = Houses.with(9, 9, 9, 9);
        house.hang(0, 0, 5);
        house.hang(1, 1, 5);
        house.brine(2);
        check.due("by one of another rack", house.isCrowded(0), false);
        check.due("in brine", house.isCrowded(2), false);
        check.due("outside", house.isCrowded(3), false);
        check.raises("no such fish", NO_INDEX, () -> house.isCrowded(4));
        check.raises("no such fish below 0", NO_INDEX, () -> house.isCrowded(-1));
    }

    private void isDone() {
        check.promise(20, "isDone");
        SmokeRacks house = Houses.smoking(1, 3, 3);
        check.due("without smoke", house.isDone(0), false);
        house.hours(1);
        check.due("with smoke on one side", house.isDone(0), false);
        house.turn(0);
        house.hours(1);
        check.due("with just 5 more than 0, 5 wanted and its weight", house.sideOf(0, 1, false), 5);
        check.due("1 lacks", house.isDone(0), false);
        house.hours(1);
        check.due("with smoke enough on both", house.isDone(0), true);
        house.out(0);
        check.due("off its hook", house.isDone(0), true);
        SmokeRacks just = Houses.smoking(1, 4, 2);
        just.hours(1);
        just.turn(0);
        just.hours(1);
        check.due("not yet", just.isDone(0), false);
        just.logs(2);
        just.turn(0);
        just.hours(1);
        just.logs(1);
        just.wood(0);
        just.turn(0);
        just.hours(1);
        check.due("more than enough", just.isDone(0), true);
        SmokeRacks exact = Houses.smoking(1, 7, 0);
        exact.turn(0);
        exact.hours(1);
        exact.turn(0);
        exact.hours(1);
        check.due("exactly 6 on the second", exact.sideOf(0, 0, false), 6);
        check.due("exactly enough", exact.isDone(0), true);
        SmokeRacks burnt = Houses.smoking(1, 12, 0);
        burnt.hours(1);
        burnt.turn(0);
        burnt.hours(1);
        check.due("burnt with smoke enough", burnt.isDone(0), false);
        check.raises("no such fish", NO_INDEX, () -> burnt.isDone(1));
        check.raises("no such fish below 0", NO_INDEX, () -> burnt.isDone(-1));
    }

    private void wouldChar() {
        check.promise(21, "wouldChar, and 22, wouldCharAgain");
        SmokeRacks house = Houses.smoking(2, 6, 3);
        int[] due = {0, 4, 7, 9, 9, 9};
        for (int many = 0; many < due.length; many++) {
            wouldBoth(house, 0, many, due[many]);
        }
        wouldBoth(house, 0, 24, 9);
        house.turn(0);
        int[] turned = {0, 0, 3, 5, 6, 6};
        for (int many = 0; many < turned.length; many++) {
            wouldBoth(house, 0, many, turned[many]);
        }
        wouldBoth(house, 0, 24, 6);
        house.hours(2);
        wouldBoth(house, 0, 0, 3);
        wouldBoth(house, 0, 1, 5);
        SmokeRacks apart = Houses.salted(2, 9, 8);
        apart.out(0);
        wouldBoth(apart, 0, 24, 0);
        apart.hang(0, 1, 0);
        wouldBoth(apart, 0, 1, 2);
        wouldBoth(apart, 0, 2, 3);
        wouldBoth(apart, 0, 3, 3);
        apart.hours(1);
        apart.out(0);
        wouldBoth(apart, 0, 7, 2);
        wouldBoth(Houses.smoking(2, 0, 3), 0, 24, 0);
        wouldBoth(Houses.smoking(2, 2, 3), 0, 24, 0);
        check.raises("no such fish", NO_INDEX, () -> house.wouldChar(1, 25));
        check.raises("no such fish below 0", NO_INDEX, () -> house.wouldChar(-1, 0));
        check.raises("25 hours", BAD, () -> house.wouldChar(0, 25));
        check.raises("-1 hours", BAD, () -> house.wouldChar(0, -1));
        check.raises("again: no such fish", NO_INDEX, () -> house.wouldCharAgain(1, 25));
        check.raises("again: no such fish below 0", NO_INDEX, () -> house.wouldCharAgain(-1, 0));
        check.raises("again: 25 hours", BAD, () -> house.wouldCharAgain(0, 25));
        check.raises("again: -1 hours", BAD, () -> house.wouldCharAgain(0, -1));
    }

    private void wouldBoth(SmokeRacks house, int fish, int many, int due) {
        String before = View.of(house);
        check.due("wouldChar after " + many, house.wouldChar(fish, many), due);
        check.due("wouldCharAgain after " + many, house.wouldCharAgain(fish, many), due);
        check.due("the state", View.of(house), before);
    }

    private void burnsIn() {
        check.promise(23, "burnsIn");
        check.due("with 12 logs", Houses.smoking(1, 12, 0).burnsIn(0), 1);
        check.due("with 10 logs", Houses.smoking(1, 10, 0).burnsIn(0), 2);
        check.due("with 6 logs", Houses.smoking(1, 6, 0).burnsIn(0), 3);
        check.raises("with 5 logs", NONE, () -> Houses.smoking(1, 5, 3).burnsIn(0));
        check.raises("without logs", NONE, () -> Houses.smoking(1, 0, 3).burnsIn(0));
        SmokeRacks house = Houses.smoking(1, 12, 0);
        house.turn(0);
        check.due("turned down", house.burnsIn(0), 2);
        house.fish(3);
        check.raises("outside", NONE, () -> house.burnsIn(1));
        check.raises("no such fish", NO_INDEX, () -> house.burnsIn(2));
        check.raises("no such fish below 0", NO_INDEX, () -> house.burnsIn(-1));
        house.hours(2);
        check.due("burnt", house.burnsIn(0), 0);
        house.turn(0);
        house.out(0);
        check.due("burnt, with the other side down, and outside", house.burnsIn(0), 0);
        SmokeRacks late = Houses.smoking(1, 6, 0);
        late.hours(1);
        late.turn(0);
        check.raises("with char on the side that is up alone", NONE, () -> late.burnsIn(0));
    }

    private void doneIn() {
        check.promise(24, "doneIn");
        check.due("turned ahead of each hour", Houses.smoking(3, 12, 0).doneIn(0), 2);
        check.due("with 6 logs: 6+4 and 5+3", Houses.smoking(3, 6, 0).doneIn(0), 4);
        check.due("with the last of 6 logs: 6+4+2 and 5+3+1", Houses.smoking(4, 6, 0).doneIn(0), 6);
        check.raises("with 5 logs: 5+3+1 and 4+2", NONE, () -> Houses.smoking(3, 5, 0).doneIn(0));
        check.due("with wood: 7+5 and 6+4", Houses.smoking(5, 4, 3).doneIn(0), 4);
        check.raises("no smoke by the wood alone", NONE, () -> Houses.smoking(6, 4, 3).doneIn(0));
        check.raises("without logs", NONE, () -> Houses.smoking(1, 0, 3).doneIn(0));
        SmokeRacks house = Houses.smoking(1, 11, 3);
        house.fish(9);
        check.raises("outside", NONE, () -> house.doneIn(1));
        check.raises("no such fish", NO_INDEX, () -> house.doneIn(2));
        check.raises("no such fish below 0", NO_INDEX, () -> house.doneIn(-1));
        house.turn(0);
        house.hours(1);
        house.turn(0);
        check.due("the side that is up is next", house.doneIn(0), 2);
        house.hours(1);
        check.due("done", house.doneIn(0), 0);
        house.out(0);
        check.due("done, and outside", house.doneIn(0), 0);
        SmokeRacks burnt = Houses.smoking(1, 12, 3);
        burnt.hours(1);
        check.raises("burnt", NONE, () -> burnt.doneIn(0));
        SmokeRacks close = Houses.smoking(3, 12, 0);
        close.fish(1);
        close.hang(1, 0, 1);
        check.due("crowded: 6+5 and 5+4", close.doneIn(0), 4);
        check.due("not crowded", close.doneIn(1), 2);
    }

    private void hottest() {
        check.promise(25, "hottest");
        SmokeRacks empty = new SmokeRacks();
        check.raises("without fish", NONE, empty::hottest);
        SmokeRacks house = Houses.hanging(3, 1, 1);
        house.fish(1);
        house.fish(1);
        house.fish(1);
        house.hang(2, 0, 0);
        house.hang(3, 0, 9);
        check.raises("without logs", NONE, house::hottest);
        house.logs(12);
        check.due("of several the lowest", house.hottest(), 2);
        house.turn(2);
        check.due("the other one is first", house.hottest(), 3);
        house.hours(1);
        check.due("those that are burnt left out", house.hottest(), 0);
        house.throwAway(0);
        house.throwAway(0);
        check.due("the last that would be", house.hottest(), 0);
        house.hours(1);
        check.raises("none would be", NONE, house::hottest);
        SmokeRacks later = Houses.hanging(2, 1);
        later.fish(1);
        later.hang(1, 1, 0);
        later.logs(8);
        check.due("in 3 and 2 hours", later.burnsIn(0) * 10 + later.burnsIn(1), 32);
        check.due("the sooner", later.hottest(), 1);
    }

    private void bestHook() {
        check.promise(26, "bestHook");
        SmokeRacks house = Houses.with(1, 2, 3, 4);
        check.due("a rack without others", house.bestHook(0, 3), 0);
        house.hang(0, 1, 4);
        check.due("the fish itself does not count", house.bestHook(0, 1), 0);
        check.due("farthest from 4", house.bestHook(1, 1), 9);
        check.due("another rack", house.bestHook(1, 0), 0);
        house.hang(1, 1, 9);
        check.due("farthest from 4 and 9", house.bestHook(2, 1), 0);
        check.due("for one of the two", house.bestHook(1, 1), 9);
        house.hang(2, 1, 0);
        check.due("of several the lowest: 2, 6 and 7", house.bestHook(3, 1), 2);
        check.due("its own hook counts as free", house.bestHook(0, 1), 4);
        house.brine(3);
        check.due("for one in brine", house.bestHook(3, 1), 2);
        check.raises("no such fish", NO_INDEX, () -> house.bestHook(4, 1));
        check.raises("no such fish below 0", NO_INDEX, () -> house.bestHook(-1, 1));
        check.raises("no such rack", NO_INDEX, () -> house.bestHook(0, 4));
        check.raises("no such rack below 0", NO_INDEX, () -> house.bestHook(0, -1));
        SmokeRacks full = Houses.with(1, 1, 1, 1, 1, 1, 1, 1, 1, 1, 1);
        for (int fish = 0; fish < 9; fish++) {
            full.hang(fish, 2, fish);
        }
        check.due("one is free", full.bestHook(10, 2), 9);
        full.hang(9, 2, 9);
        check.raises("none is free", NONE, () -> full.bestHook(10, 2));
        check.due("but its own", full.bestHook(5, 2), 5);
    }

    private void crowded() {
        check.promise(27, "crowded");
        SmokeRacks house = new SmokeRacks();
        check.due("without fish", house.crowded(), 0);
        for (int weight : new int[] {1, 3, 6, 9, 9}) {
            house.fish(weight);
        }
        check.due("none hangs", house.crowded(), 0);
        house.hang(0, 0, 0);
        house.hang(1, 0, 1);
        check.due("1 does not mind 3", house.crowded(), 1);
        house.hang(2, 0, 3);
        check.due("2 apart is too near for 6", house.crowded(), 2);
        house.hang(3, 0, 7);
        check.due("4 apart is enough for 9", house.crowded(), 2);
        house.hang(4, 0, 8);
        check.due("two of 9", house.crowded(), 4);
    }

    private void ranked() {
        check.promise(28, "ranked");
        SmokeRacks house = Houses.with(3, 9, 3, 9, 1);
        check.due("by weight", order(house, 0), "13024");
        check.due("by salt at first", order(house, 1), "01234");
        house.brine(4);
        house.day();
        house.brine(2);
        house.day();
        check.due("by salt", order(house, 1), "42013");
        house.day();
        check.due("by price: 9, 27, 13, 27, 9", order(house, 4), "13204");
        house.day();
        check.due("by price: 9, 27, 15, 27, 3", order(house, 4), "13204");
        house.out(4);
        house.hang(4, 0, 0);
        house.hang(3, 1, 0);
        house.hang(0, 0, 9);
        house.logs(6);
        house.hours(1);
        house.turn(4);
        house.hours(1);
        check.due("by smoke: 11, 0, 0, 9, 11", order(house, 2), "04312");
        check.due("by char: 7, 0, 0, 5, 2", order(house, 3), "03412");
        house.turn(0);
        check.due("by the greater char", order(house, 3), "03412");
        check.raises("no such measure", BAD, () -> house.ranked(5, 0));
        check.raises("no such measure and place", BAD, () -> house.ranked(-1, 9));
        check.raises("no such place", NONE, () -> house.ranked(0, 5));
        check.raises("no such place below 0", NONE, () -> house.ranked(0, -1));
        check.raises("no fish", NONE, () -> new SmokeRacks().ranked(4, 0));
    }

    private static String order(SmokeRacks house, int measure) {
        StringBuilder text = new StringBuilder();
        for (int place = 0; place < house.account(0); place++) {
            text.append(house.ranked(measure, place));
        }
        return text.toString();
    }

    private static String numbers(SmokeRacks house, int fish) {
        StringBuilder text = new StringBuilder();
        for (int what = 0; what < 9; what++) {
            text.append(house.fishOf(fish, what)).append(' ');
        }
        return text.toString();
    }
}
