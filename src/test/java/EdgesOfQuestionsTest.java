import java.util.NoSuchElementException;

/** A test for each sentence of the promises 14 to 28: what is too small, too large, empty, full, or not there. */
final class EdgesOfQuestionsTest {
    private static final String NO_FISH = "Throws `IndexOutOfBoundsException` if there is no such fish";
    private static final Class<IndexOutOfBoundsException> NO_INDEX = IndexOutOfBoundsException.class;
    private static final Class<IllegalArgumentException> BAD = IllegalArgumentException.class;
    private static final Class<NoSuchElementException> NONE = NoSuchElementException.class;
    private static final int[] BELOW_AND_ABOVE = {-1, Integer.MIN_VALUE, Integer.MAX_VALUE};

    private final Check check;
    private final Document document;

    EdgesOfQuestionsTest(Check check, Document document) {
        this.check = check;
        this.document = document;
    }

    void run() {
        document.test(14, "`what`: 0 for its weight, 1 for its salt, 2 for 0 outside, 1 in brine, 2 on a hook, 3 for its rack, -1 if"
            + " it does not hang, 4 for its hook, -1 likewise, 5 for the side that is down, 6 for 1 if this was turned down since"
            + " the hour before, otherwise 0, 7 for what heat it bears, 8 for the gap that it needs", this::fishNumbers);
        document.test(14, NO_FISH, () -> noSuchFish((house, fish) -> house.fishOf(fish, 0)));
        document.test(14, "Throws `IllegalArgumentException` if what is not from 0 to 8", this::noSuchNumber);
        document.test(15, NO_FISH, () -> noSuchFish((house, fish) -> house.sideOf(fish, 0, true)));
        document.test(15, "Throws `IllegalArgumentException` if there is no such side", this::noSuchSide);
        document.test(16, "Returns the fish on a hook.", this::fishOnHook);
        document.test(16, "Throws `IndexOutOfBoundsException` if there is no such rack or hook", this::noSuchHook);
        document.test(16, "Throws `NoSuchElementException` if none hangs there", this::noneOnHook);
        document.test(17, "Throws `IndexOutOfBoundsException` if there is no such rack", this::noSuchRack);
        document.test(18, "Returns how far the nearest other fish hangs on the same rack.", this::howFar);
        document.test(18, NO_FISH, () -> noSuchFish((house, fish) -> house.nearest(fish)));
        document.test(18, "Throws `NoSuchElementException` if the fish does not hang, or alone", this::noneNear);
        document.test(19, "Returns whether it is, false if it does not hang.", this::whetherCrowded);
        document.test(19, NO_FISH, () -> noSuchFish((house, fish) -> house.isCrowded(fish)));
        document.test(20, NO_FISH, () -> noSuchFish((house, fish) -> house.isDone(fish)));
        document.test(21, "Returns how much char the side of a fish that is down would have after some hours, if nothing else was"
            + " done: hour by hour.", this::hourByHour);
        document.test(21, "`many`: how many hours, 0 to 24", () -> manyHours((house, many) -> house.wouldChar(0, many)));
        document.test(21, NO_FISH, () -> noSuchFish((house, fish) -> house.wouldChar(fish, 24)));
        document.test(21, "Throws `IllegalArgumentException` if the hours are out of range", this::noSuchHours);
        document.test(22, "Returns the same by a second way: by adding up what the heat is above what the fish bears, at once.",
            this::atOnce);
        document.test(22, "`many`: how many hours, 0 to 24", () -> manyHours((house, many) -> house.wouldCharAgain(0, many)));
        document.test(22, NO_FISH, () -> noSuchFish((house, fish) -> house.wouldCharAgain(fish, 24)));
        document.test(22, "Throws `IllegalArgumentException` if the hours are out of range", this::noSuchHoursAgain);
        runMore();
    }

    private void runMore() {
        document.test(23, "Returns in how many hours a fish would be burnt, if nothing else was done.", this::hoursToBurn);
        document.test(23, "Returns in how many, 0 if it is burnt.", this::burntAlready);
        document.test(23, NO_FISH, () -> noSuchFish((house, fish) -> house.burnsIn(fish)));
        document.test(23, "Throws `NoSuchElementException` if it would never be", this::neverBurnt);
        document.test(24, "Returns in how many hours a fish would be done, if it was turned ahead of each of them, and nothing else"
            + " was done.", this::hoursToBeDone);
        document.test(24, "Returns in how many, 0 if it is done.", this::doneAlready);
        document.test(24, NO_FISH, () -> noSuchFish((house, fish) -> house.doneIn(fish)));
        document.test(24, "Throws `NoSuchElementException` if it would never be, or does not hang and is not done",
            this::neverDone);
        document.test(25, "Returns the fish that would be burnt first, if nothing else was done, of several the lowest; those that"
            + " are burnt left out.", this::firstToBurn);
        document.test(25, "Throws `NoSuchElementException` if none would be", this::noneToBurn);
        document.test(26, "Returns the free hook of a rack that is the farthest from the nearest other fish there, of several the"
            + " lowest; on a rack without others the hook 0.", this::farthestHook);
        document.test(26, "The fish itself does not count.", this::notItself);
        document.test(26, "Throws `IndexOutOfBoundsException` if there is no such fish, or no such rack", this::noSuchFishOrRack);
        document.test(26, "Throws `NoSuchElementException` if no hook is free", this::noFreeHook);
        document.test(27, "Returns how many fish are crowded.", this::howManyCrowded);
        document.test(28, "Returns a fish by a measure: the greatest first, of several the lowest.", this::greatestFirst);
        document.test(28, "`measure`: 0 for its weight, 1 for its salt, 2 for the smoke of both sides together, 3 for the greater char"
            + " of both, 4 for what it could be sold for if it was done", this::measures);
        document.test(28, "`place`: the place in this order, from 0", this::places);
        document.test(28, "Throws `IllegalArgumentException` if there is no such measure", this::noSuchMeasure);
        document.test(28, "Throws `NoSuchElementException` if there is no such place", this::noSuchPlace);
    }

    private interface OfNumber {
        Object of(SmokeRacks house, int number);
    }

    /** Too small, too large, in an empty house and in a full one; the first and the last are there. */
    private void noSuchFish(OfNumber call) {
        for (int many : new int[] {0, 1, 12}) {
            SmokeRacks house = Houses.ofMany(many);
            check.leaves("the fish " + many + " of " + many, house, NO_INDEX, () -> call.of(house, many));
            for (int fish : BELOW_AND_ABOVE) {
                check.leaves("the fish " + fish + " of " + many, house, NO_INDEX, () -> call.of(house, fish));
            }
            for (int fish = 0; fish < many; fish++) {
                int there = fish;
                String thrown = Check.thrownBy(() -> call.of(house, there));
                check.holds("the fish " + fish + " of " + many + " is there", !thrown.equals(NO_INDEX.getSimpleName()));
            }
        }
    }

    private static String numbers(SmokeRacks house, int fish) {
        StringBuilder text = new StringBuilder();
        for (int what = 0; what < 9; what++) {
            text.append(what == 0 ? "" : " ").append(house.fishOf(fish, what));
        }
        return text.toString();
    }

    private void fishNumbers() {
        SmokeRacks house = Houses.with(9, 1);
        check.due("outside at first", numbers(house, 0), "9 0 0 -1 -1 0 0 2 4");
        check.due("the lightest", numbers(house, 1), "1 0 0 -1 -1 0 0 2 1");
        house.brine(0);
        house.day();
        check.due("in brine", numbers(house, 0), "9 2 1 -1 -1 0 0 2 4");
        for (int day = 0; day < 4; day++) {
            house.day();
        }
        house.out(0);
        house.hang(0, 3, 9);
        house.hang(1, 0, 0);
        check.due("on the last hook", numbers(house, 0), "9 9 2 3 9 0 0 5 4");
        check.due("on the first hook", numbers(house, 1), "1 0 2 0 0 0 0 2 1");
        house.turn(0);
        check.due("turned", numbers(house, 0), "9 9 2 3 9 1 1 5 4");
        house.hours(1);
        check.due("an hour later", numbers(house, 0), "9 9 2 3 9 1 0 5 4");
        house.turn(0);
        check.due("turned back", numbers(house, 0), "9 9 2 3 9 0 1 5 4");
        house.out(0);
        check.due("off its hook", numbers(house, 0), "9 9 0 -1 -1 0 0 5 4");
    }

    private void noSuchNumber() {
        SmokeRacks house = Houses.with(9, 1);
        check.due("0", house.fishOf(0, 0), 9);
        check.due("8", house.fishOf(0, 8), 4);
        check.leaves("9", house, BAD, () -> house.fishOf(0, 9));
        for (int what : BELOW_AND_ABOVE) {
            check.leaves("" + what, house, BAD, () -> house.fishOf(0, what));
            check.leaves(what + " of no fish", house, NO_INDEX, () -> house.fishOf(2, what));
        }
    }

    private void noSuchSide() {
        SmokeRacks house = Houses.smoking(1, 4, 1);
        house.hours(1);
        house.turn(0);
        house.hours(2);
        check.due("the side 0", house.sideOf(0, 0, false) * 10 + house.sideOf(0, 0, true), 52);
        check.due("the side 1", house.sideOf(0, 1, false) * 10 + house.sideOf(0, 1, true), 70);
        for (boolean isChar : new boolean[] {false, true}) {
            check.leaves("the side 2", house, BAD, () -> house.sideOf(0, 2, isChar));
            for (int side : BELOW_AND_ABOVE) {
                check.leaves("the side " + side, house, BAD, () -> house.sideOf(0, side, isChar));
                check.leaves("the side " + side + " of no fish", house, NO_INDEX, () -> house.sideOf(1, side, isChar));
            }
        }
    }

    private void fishOnHook() {
        SmokeRacks house = Houses.ofMany(12);
        house.hang(11, 0, 0);
        house.hang(0, 3, 9);
        house.hang(5, 0, 9);
        house.hang(6, 3, 0);
        check.due("the first hook of all", house.at(0, 0), 11);
        check.due("the last hook of all", house.at(3, 9), 0);
        check.due("the last hook of the first rack", house.at(0, 9), 5);
        check.due("the first hook of the last rack", house.at(3, 0), 6);
    }

    private void noSuchHook() {
        SmokeRacks house = Houses.ofMany(2);
        house.hang(0, 0, 0);
        house.hang(1, 3, 9);
        check.leaves("the rack 4", house, NO_INDEX, () -> house.at(4, 0));
        check.leaves("the hook 10", house, NO_INDEX, () -> house.at(3, 10));
        check.leaves("neither", house, NO_INDEX, () -> house.at(4, 10));
        for (int bad : BELOW_AND_ABOVE) {
            check.leaves("the rack " + bad, house, NO_INDEX, () -> house.at(bad, 0));
            check.leaves("the hook " + bad, house, NO_INDEX, () -> house.at(0, bad));
            check.leaves("both " + bad, house, NO_INDEX, () -> house.at(bad, bad));
        }
        check.due("the first", house.at(0, 0), 0);
        check.due("the last", house.at(3, 9), 1);
    }

    private void noneOnHook() {
        SmokeRacks house = Houses.ofMany(3);
        check.leaves("none hangs at all", house, NONE, () -> house.at(0, 0));
        house.hang(0, 0, 0);
        house.hang(1, 3, 9);
        check.leaves("the hook beside", house, NONE, () -> house.at(0, 1));
        check.leaves("the same hook of another rack", house, NONE, () -> house.at(1, 0));
        check.leaves("the same hook of the rack before", house, NONE, () -> house.at(2, 9));
        house.out(0);
        check.leaves("taken off", house, NONE, () -> house.at(0, 0));
        house.throwAway(1);
        check.leaves("gone", house, NONE, () -> house.at(3, 9));
    }

    private void noSuchRack() {
        SmokeRacks house = new SmokeRacks();
        house.logs(12);
        check.due("the rack 0", house.heat(0), 12);
        check.due("the rack 3", house.heat(3), 9);
        check.leaves("the rack 4", house, NO_INDEX, () -> house.heat(4));
        for (int rack : BELOW_AND_ABOVE) {
            check.leaves("the rack " + rack, house, NO_INDEX, () -> house.heat(rack));
        }
    }

    private void howFar() {
        SmokeRacks house = Houses.with(9, 9, 9);
        house.hang(0, 1, 0);
        house.hang(1, 1, 9);
        check.due("at the ends", house.nearest(0) * 10 + house.nearest(1), 99);
        house.hang(2, 1, 8);
        check.due("side by side", house.nearest(2) * 10 + house.nearest(1), 11);
        check.due("the nearer of two", house.nearest(0), 8);
        house.out(2);
        house.hang(2, 2, 0);
        check.due("not on the next rack", house.nearest(0), 9);
    }

    private void noneNear() {
        SmokeRacks house = Houses.ofMany(4);
        house.hang(0, 1, 0);
        house.hang(1, 1, 9);
        house.hang(2, 2, 0);
        house.brine(3);
        check.leaves("alone on its rack", house, NONE, () -> house.nearest(2));
        check.leaves("alone in brine", house, NONE, () -> house.nearest(3));
        house.out(2);
        house.out(3);
        check.leaves("outside, as another one is", house, NONE, () -> house.nearest(2));
        house.brine(2);
        house.brine(3);
        check.leaves("in brine, as another one is", house, NONE, () -> house.nearest(2));
        house.out(1);
        check.leaves("alone when the other was taken off", house, NONE, () -> house.nearest(0));
    }

    private void whetherCrowded() {
        SmokeRacks house = Houses.with(9, 9, 9, 9, 1);
        house.brine(0);
        house.brine(1);
        check.due("in brine, as another one is", house.isCrowded(0), false);
        check.due("outside, as another one is", house.isCrowded(2), false);
        house.hang(2, 0, 5);
        check.due("alone", house.isCrowded(2), false);
        house.hang(3, 0, 1);
        check.due("with just its gap", house.isCrowded(2), false);
        house.hang(4, 0, 8);
        check.due("with less", house.isCrowded(2), true);
        check.due("the other, which needs a gap of 1", house.isCrowded(4), false);
        house.out(4);
        check.due("when that was taken off", house.isCrowded(2), false);
        check.due("which is outside", house.isCrowded(4), false);
    }

    /** After 0, 1, 2, 3 and 24 hours, and nothing is changed by asking. */
    private void wouldBe(String what, SmokeRacks house, OfNumber call, String due) {
        String before = View.whole(house);
        StringBuilder told = new StringBuilder();
        for (int many : new int[] {0, 1, 2, 3, 24}) {
            told.append(many == 0 ? "" : " ").append(call.of(house, many));
        }
        check.due(what, told.toString(), due);
        check.due(what + ": the state", View.whole(house), before);
    }

    private void hourByHour() {
        OfNumber call = (house, many) -> house.wouldChar(0, many);
        eitherWay(call);
        SmokeRacks house = Houses.smoking(1, 5, 3);
        house.turn(0);
        house.hours(1);
        wouldBe("an hour after it was turned", house, call, "0 2 3 3 3");
        house.turn(0);
        house.turn(0);
        house.hours(2);
        wouldBe("with char before", house, call, "1 1 1 1 1");
        house.out(0);
        wouldBe("outside with char before", house, call, "1 1 1 1 1");
        house.brine(0);
        house.logs(10);
        wouldBe("in brine with char before", house, call, "1 1 1 1 1");
        house.out(0);
        house.hang(0, 3, 0);
        wouldBe("on the rack 3", house, call, "1 8 9 9 9");
        house.hours(4);
        house.turn(0);
        wouldBe("the other side when one is burnt", house, call, "0 0 2 3 3");
    }

    private void eitherWay(OfNumber call) {
        SmokeRacks house = Houses.smoking(1, 5, 3);
        wouldBe("of 5 logs", house, call, "0 3 5 6 6");
        house.turn(0);
        wouldBe("turned down", house, call, "0 0 2 3 3");
        wouldBe("without logs", Houses.smoking(1, 0, 3), call, "0 0 0 0 0");
        wouldBe("with the heat it bears", Houses.smoking(1, 2, 3), call, "0 0 0 0 0");
        wouldBe("with 1 more", Houses.smoking(1, 3, 3), call, "0 1 1 1 1");
        wouldBe("just burnt", Houses.smoking(1, 11, 0), call, "0 9 9 9 9");
        wouldBe("by the most heat", Houses.smoking(1, 12, 0), call, "0 9 9 9 9");
    }

    private void manyHours(OfNumber call) {
        SmokeRacks house = Houses.smoking(1, 12, 0);
        check.leaves("-1", house, BAD, () -> call.of(house, -1));
        check.due("0", call.of(house, 0), 0);
        check.due("24", call.of(house, 24), 9);
        check.leaves("25", house, BAD, () -> call.of(house, 25));
    }

    private void noSuchHours() {
        outOfRange((house, many) -> house.wouldChar(0, many), (house, many) -> house.wouldChar(1, many));
    }

    private void noSuchHoursAgain() {
        outOfRange((house, many) -> house.wouldCharAgain(0, many), (house, many) -> house.wouldCharAgain(1, many));
    }

    private void outOfRange(OfNumber call, OfNumber ofNoFish) {
        SmokeRacks house = Houses.smoking(1, 12, 0);
        check.leaves("25", house, BAD, () -> call.of(house, 25));
        for (int many : BELOW_AND_ABOVE) {
            check.leaves("" + many, house, BAD, () -> call.of(house, many));
            check.leaves(many + " of no fish", house, NO_INDEX, () -> ofNoFish.of(house, many));
        }
    }

    private void atOnce() {
        eitherWay((house, many) -> house.wouldCharAgain(0, many));
        for (int logs = 0; logs <= 12; logs++) {
            for (int rack = 0; rack < 4; rack++) {
                for (int salt : new int[] {0, 2, 4, 6, 8, 9}) {
                    bothWays(logs, rack, salt);
                }
            }
        }
    }

    /** Both ways after every number of hours, as it hangs, as it is turned, outside, and what comes. */
    private void bothWays(int logs, int rack, int salt) {
        SmokeRacks house = Houses.salted(1, salt, 1);
        house.hours(1);
        house.out(0);
        house.hang(0, rack, 0);
        if (logs > 0) {
            house.logs(logs);
        }
        for (int many = 0; many <= 24; many++) {
            check.due("by a second way, " + many, house.wouldCharAgain(0, many), house.wouldChar(0, many));
        }
        house.turn(0);
        for (int many = 0; many <= 24; many++) {
            int told = house.wouldCharAgain(0, many);
            check.due("turned, by a second way, " + many, told, house.wouldChar(0, many));
            if (many > 0) {
                house.hours(many);
                check.due("what came, " + many, house.sideOf(0, house.fishOf(0, 5), true), told);
                house.undo();
            }
        }
        house.hours(2);
        house.out(0);
        check.due("outside", house.wouldCharAgain(0, 24), house.wouldChar(0, 24));
    }

    private void hoursToBurn() {
        check.due("in the next", Houses.smoking(1, 11, 0).burnsIn(0), 1);
        check.due("in two", Houses.smoking(1, 10, 0).burnsIn(0), 2);
        check.due("in three: 4+3+2", Houses.smoking(1, 6, 0).burnsIn(0), 3);
        SmokeRacks charred = Houses.smoking(1, 5, 0);
        charred.hours(3);
        charred.logs(2);
        check.due("in two: 6 there are, and 2+1", charred.burnsIn(0), 2);
        SmokeRacks turned = Houses.smoking(1, 12, 0);
        turned.turn(0);
        check.due("turned down", turned.burnsIn(0), 2);
        check.due("nothing is changed by asking", turned.sideOf(0, 1, true) + turned.account(5), 0);
        SmokeRacks last = Houses.smoking(1, 7, 0);
        last.turn(0);
        check.due("turned down: 4+3+2", last.burnsIn(0), 4);
    }

    private void burntAlready() {
        SmokeRacks burnt = Houses.smoking(1, 11, 0);
        burnt.hours(1);
        check.due("on a hook", burnt.burnsIn(0), 0);
        burnt.turn(0);
        check.due("on the other side", burnt.burnsIn(0), 0);
        burnt.out(0);
        check.due("outside", burnt.burnsIn(0), 0);
        burnt.brine(0);
        burnt.hours(24);
        check.due("in brine, without logs", burnt.burnsIn(0), 0);
    }

    private void neverBurnt() {
        SmokeRacks never = Houses.smoking(1, 5, 3);
        check.leaves("1+2+3 alone", never, NONE, () -> never.burnsIn(0));
        never.hours(1);
        never.turn(0);
        never.logs(1);
        check.leaves("char on both sides", never, NONE, () -> never.burnsIn(0));
        never.logs(7);
        never.out(0);
        check.leaves("outside", never, NONE, () -> never.burnsIn(0));
        never.brine(0);
        check.leaves("in brine", never, NONE, () -> never.burnsIn(0));
        SmokeRacks cold = Houses.smoking(1, 0, 3);
        check.leaves("without logs", cold, NONE, () -> cold.burnsIn(0));
        SmokeRacks turned = Houses.smoking(1, 6, 0);
        turned.turn(0);
        check.leaves("turned down: 3+2+1", turned, NONE, () -> turned.burnsIn(0));
    }

    private void hoursToBeDone() {
        check.due("without a burn by the most heat", Houses.smoking(9, 12, 3).doneIn(0), 2);
        check.due("just enough: 7 and 6", Houses.smoking(1, 7, 0).doneIn(0), 2);
        check.due("not just enough: 6+4 and 5+3", Houses.smoking(1, 6, 0).doneIn(0), 4);
        check.due("in the last of the logs: 6+4+2 and 5+3+1", Houses.smoking(4, 6, 0).doneIn(0), 6);
        SmokeRacks half = Houses.smoking(3, 12, 3);
        half.hang(half.fish(1), 0, 1);
        check.due("crowded: 7+6 and 7+6", half.doneIn(0), 4);
        SmokeRacks next = Houses.smoking(1, 12, 0);
        next.turn(0);
        next.hours(1);
        check.due("the side that is up is turned down first", next.doneIn(0), 1);
        next.turn(0);
        check.due("the side that has smoke is turned down first", next.doneIn(0), 2);
        check.due("nothing is changed by asking", next.fishOf(0, 5) + next.sideOf(0, 0, false), 0);
    }

    private void doneAlready() {
        SmokeRacks house = Houses.smoking(1, 7, 0);
        house.turn(0);
        house.hours(1);
        check.due("not yet", house.doneIn(0), 1);
        house.turn(0);
        house.hours(1);
        check.due("on a hook", house.doneIn(0), 0);
        house.out(0);
        check.due("outside", house.doneIn(0), 0);
        house.brine(0);
        check.due("in brine", house.doneIn(0), 0);
    }

    private void neverDone() {
        SmokeRacks never = Houses.smoking(5, 6, 0);
        check.leaves("1 lacks at the end: 6+4+2 and 5+3+1", never, NONE, () -> never.doneIn(0));
        SmokeRacks cold = Houses.smoking(1, 0, 3);
        check.leaves("without logs", cold, NONE, () -> cold.doneIn(0));
        SmokeRacks burnt = Houses.smoking(1, 12, 3);
        burnt.hours(1);
        check.leaves("burnt", burnt, NONE, () -> burnt.doneIn(0));
        SmokeRacks almost = Houses.smoking(1, 12, 0);
        almost.turn(0);
        almost.hours(1);
        almost.out(0);
        check.leaves("outside", almost, NONE, () -> almost.doneIn(0));
        almost.brine(0);
        check.leaves("in brine", almost, NONE, () -> almost.doneIn(0));
    }

    private void firstToBurn() {
        SmokeRacks house = Houses.ofMany(12);
        for (int fish = 2; fish < 12; fish++) {
            house.hang(fish, fish == 11 ? 0 : 1, fish - 2);
        }
        house.logs(10);
        check.due("of all in 2 hours the lowest", house.hottest(), 2);
        house.logs(1);
        check.due("the last, in 1 hour", house.hottest(), 11);
        house.hours(1);
        check.due("the last left out", house.hottest(), 2);
        for (int fish = 2; fish < 11; fish++) {
            house.turn(fish);
        }
        check.due("the lowest of those that were turned", house.hottest(), 2);
        house.turn(10);
        check.due("the one with char on the side that is down, in 2 hours", house.hottest(), 10);
        house.out(9);
        house.hang(9, 1, 7);
        check.due("one in 2 hours too, as it was not turned", house.hottest(), 9);
        SmokeRacks first = Houses.hanging(0, 1, 1, 1);
        first.logs(11);
        first.turn(1);
        check.due("the first of all, in 1 hour", first.hottest(), 0);
        first.turn(0);
        first.out(2);
        check.due("of two in 3 hours the lowest", first.hottest(), 0);
    }

    private void noneToBurn() {
        SmokeRacks house = new SmokeRacks();
        check.leaves("without fish", house, NONE, house::hottest);
        house.fish(1);
        house.logs(12);
        check.leaves("with one outside", house, NONE, house::hottest);
        house.brine(0);
        check.leaves("with one in brine", house, NONE, house::hottest);
        house.out(0);
        house.hang(0, 0, 0);
        house.hours(1);
        check.leaves("with a burnt one", house, NONE, house::hottest);
        SmokeRacks mild = Houses.smoking(1, 5, 3);
        check.leaves("with one that never would be", mild, NONE, mild::hottest);
    }

    private void farthestHook() {
        SmokeRacks house = Houses.with(1, 1, 1, 1);
        check.due("an empty rack", house.bestHook(0, 3), 0);
        house.hang(1, 3, 0);
        check.due("one on the first hook", house.bestHook(0, 3), 9);
        house.hang(2, 3, 9);
        check.due("one at both ends: 4 and 5", house.bestHook(0, 3), 4);
        house.hang(3, 3, 4);
        check.due("one between: 2, 6 and 7", house.bestHook(0, 3), 2);
        check.due("the rack before", house.bestHook(0, 2), 0);
        int[] farthest = {9, 9, 9, 9, 9, 0, 0, 0, 0, 0};
        for (int hook = 0; hook < 10; hook++) {
            SmokeRacks one = Houses.ofMany(2);
            one.hang(1, 0, hook);
            check.due("one on the hook " + hook, one.bestHook(0, 0), farthest[hook]);
        }
        SmokeRacks almost = Houses.ofMany(10);
        for (int fish = 0; fish < 9; fish++) {
            almost.hang(fish, 0, fish);
        }
        check.due("the last that is free", almost.bestHook(9, 0), 9);
    }

    private void notItself() {
        SmokeRacks house = Houses.ofMany(10);
        house.hang(0, 0, 4);
        check.due("alone on the rack", house.bestHook(0, 0), 0);
        house.hang(1, 0, 9);
        check.due("with one other", house.bestHook(0, 0), 0);
        house.hang(2, 0, 0);
        check.due("its own is the best", house.bestHook(0, 0), 4);
        check.due("not for another one", house.bestHook(3, 0), 2);
        for (int fish = 3; fish < 10; fish++) {
            house.hang(fish, 0, fish < 6 ? fish - 2 : fish - 1);
        }
        check.due("its own on a full rack", house.bestHook(0, 0), 4);
    }

    private void noSuchFishOrRack() {
        SmokeRacks house = Houses.ofMany(4);
        check.leaves("the fish 4", house, NO_INDEX, () -> house.bestHook(4, 0));
        check.leaves("the rack 4", house, NO_INDEX, () -> house.bestHook(0, 4));
        check.leaves("neither", house, NO_INDEX, () -> house.bestHook(4, 4));
        for (int bad : BELOW_AND_ABOVE) {
            check.leaves("the fish " + bad, house, NO_INDEX, () -> house.bestHook(bad, 0));
            check.leaves("the rack " + bad, house, NO_INDEX, () -> house.bestHook(0, bad));
        }
        check.due("the last of both", house.bestHook(3, 3), 0);
        SmokeRacks empty = new SmokeRacks();
        check.leaves("without fish", empty, NO_INDEX, () -> empty.bestHook(0, 0));
    }

    private void noFreeHook() {
        SmokeRacks full = Houses.ofMany(11);
        for (int fish = 0; fish < 10; fish++) {
            full.hang(fish, 2, fish);
        }
        check.leaves("on a full rack", full, NONE, () -> full.bestHook(10, 2));
        check.due("on another one", full.bestHook(10, 1), 0);
        full.out(7);
        check.due("when one was taken off", full.bestHook(10, 2), 7);
    }

    private void howManyCrowded() {
        SmokeRacks house = new SmokeRacks();
        check.due("without fish", house.crowded(), 0);
        for (int fish = 0; fish < 12; fish++) {
            house.fish(3);
        }
        check.due("none hangs", house.crowded(), 0);
        house.hang(0, 0, 0);
        check.due("one hangs", house.crowded(), 0);
        for (int fish = 1; fish < 12; fish++) {
            house.hang(fish, fish / 6, fish % 6);
        }
        check.due("all", house.crowded(), 12);
        house.out(1);
        house.out(3);
        check.due("but two outside, and two with just their gap", house.crowded(), 8);
    }

    private void greatestFirst() {
        SmokeRacks house = Houses.ofMany(12);
        for (int place = 0; place < 12; place++) {
            check.due("of equal ones", house.ranked(0, place), place);
        }
        house.throwAway(0);
        house.fish(2);
        check.due("the last is the greatest", house.ranked(0, 0), 11);
        check.due("the first of the others", house.ranked(0, 1), 0);
        check.due("the last of the others", house.ranked(0, 11), 10);
    }

    private void measures() {
        SmokeRacks house = Houses.with(2, 3, 2);
        house.brine(0);
        house.day();
        house.day();
        house.day();
        check.due("by the price: 12, 9, 6", order(house, 4), "012");
        house.day();
        check.due("by the price, with salt above 6: 6, 9, 6", order(house, 4), "102");
        check.due("by the weight: 2, 3, 2", order(house, 0), "102");
        check.due("by the salt: 8, 0, 0", order(house, 1), "012");
        house.hang(1, 0, 0);
        house.hang(2, 0, 9);
        house.logs(6);
        house.hours(1);
        house.turn(1);
        house.hours(1);
        check.due("smoke of both sides", house.sideOf(1, 0, false) + house.sideOf(1, 1, false), house.sideOf(2, 0, false));
        check.due("by the smoke of both: 0, 11, 11", order(house, 2), "120");
        check.due("by the greater char: 0, 4, 7", order(house, 3), "210");
        greaterChar();
    }

    /** 3 and 2 on the sides of 0, 4 and 0 on those of 1: neither both sides nor the one that is down rank them so. */
    private void greaterChar() {
        SmokeRacks house = Houses.ofMany(2);
        house.hang(0, 1, 0);
        house.hang(1, 0, 0);
        house.logs(6);
        house.hours(1);
        house.turn(1);
        house.out(1);
        house.turn(0);
        house.out(0);
        house.hang(0, 1, 0);
        house.hours(1);
        check.due("char of 0", house.sideOf(0, 0, true) * 10 + house.sideOf(0, 1, true), 32);
        check.due("char of 1", house.sideOf(1, 0, true) * 10 + house.sideOf(1, 1, true), 40);
        check.due("by the greater char", order(house, 3), "10");
    }

    private static String order(SmokeRacks house, int measure) {
        StringBuilder text = new StringBuilder();
        for (int place = 0; place < house.account(0); place++) {
            text.append(house.ranked(measure, place));
        }
        return text.toString();
    }

    private void places() {
        SmokeRacks house = Houses.with(1, 9, 5);
        check.due("the place 0", house.ranked(0, 0), 1);
        check.due("the place 1", house.ranked(0, 1), 2);
        check.due("the place 2", house.ranked(0, 2), 0);
        check.due("of one", Houses.with(5).ranked(4, 0), 0);
    }

    private void noSuchMeasure() {
        SmokeRacks house = Houses.with(1, 9);
        check.leaves("5", house, BAD, () -> house.ranked(5, 0));
        for (int measure : BELOW_AND_ABOVE) {
            check.leaves("" + measure, house, BAD, () -> house.ranked(measure, 0));
            check.leaves(measure + ", and no such place", house, BAD, () -> house.ranked(measure, 2));
        }
    }

    private void noSuchPlace() {
        for (int many : new int[] {0, 1, 2, 12}) {
            SmokeRacks house = Houses.ofMany(many);
            for (int measure = 0; measure < 5; measure++) {
                int by = measure;
                check.leaves(many + " of " + many, house, NONE, () -> house.ranked(by, many));
                for (int place : BELOW_AND_ABOVE) {
                    check.leaves(place + " of " + many, house, NONE, () -> house.ranked(by, place));
                }
            }
        }
    }
}
