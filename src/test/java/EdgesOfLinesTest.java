import java.util.NoSuchElementException;

/** A test for each sentence of the promises 29 to 41: what is too small, too large, empty, full, or not there. */
final class EdgesOfLinesTest {
    private static final Class<IllegalArgumentException> BAD = IllegalArgumentException.class;
    private static final Class<IllegalStateException> NOT_NOW = IllegalStateException.class;
    private static final Class<IndexOutOfBoundsException> NO_INDEX = IndexOutOfBoundsException.class;
    private static final Class<NoSuchElementException> NONE = NoSuchElementException.class;
    private static final Class<UnsupportedOperationException> REFUSED = UnsupportedOperationException.class;
    private static final Class<ArithmeticException> NO_DIVISOR = ArithmeticException.class;
    private static final int[] BELOW_AND_ABOVE = {-1, Integer.MIN_VALUE, Integer.MAX_VALUE};

    private final Check check;
    private final Document document;

    EdgesOfLinesTest(Check check, Document document) {
        this.check = check;
        this.document = document;
    }

    void run() {
        document.test(29, "Returns the new length of the buffer.", this::bufferLength);
        document.test(29, "Throws `IllegalStateException` if the buffer contains 60 characters", this::fullBuffer);
        document.test(30, "Carries out the commands in the text buffer, one after the other; if one is refused, none is carried out.",
            this::oneAfterTheOther);
        document.test(30, "The buffer is empty afterwards, also if an exception is thrown.", this::emptyAfterwards);
        document.test(30, "Returns the number of commands.", this::howManyCommands);
        document.test(30, "Throws `IllegalArgumentException` if the text has a fault", this::faultyText);
        document.test(30, "Throws `UnsupportedOperationException` if a command is refused; the reason is kept",
            this::refusedText);
        document.test(31, "Returns the fault position of the text of the latest call of commands.", this::latestFault);
        document.test(31, "Returns the fault position, or -1 if that text had no fault or there was no such call.",
            this::noFault);
        document.test(32, "`what`: 0 for the reason, 1 for its detail, 2 for the index of the command", this::reasonNumbers);
        document.test(32, "Throws `IllegalArgumentException` if what is not from 0 to 2", this::noSuchNumber);
        document.test(32, "Throws `NoSuchElementException` if nothing was refused", this::nothingRefused);
        document.test(33, "Writes a rack, in place of the line before: for each hook \".\" if it is free, and else a letter for the"
            + " fish, from a for the fish 0, as a capital one if it is burnt; as in \"a..B......\".", this::rackLine);
        document.test(33, "Returns the length of the line.", this::rackLength);
        document.test(33, "Throws `IndexOutOfBoundsException` if there is no such rack", this::noSuchRack);
        document.test(34, "Writes a fish, in place of the line before: its weight, \"*\" and its salt, and for both sides \"/\", the"
            + " smoke, \"~\" and the char, with \"!\" behind the one that is down; as in \"5*4/12~0!/3~2\".", this::fishLine);
        document.test(34, "Returns the length of the line.", this::fishLength);
        document.test(34, "Throws `IndexOutOfBoundsException` if there is no such fish", this::noSuchFish);
        document.test(35, "Returns a character of the line, which is empty at first.", this::emptyLine);
        document.test(35, "`index`: the index, from 0", this::indexes);
        document.test(35, "Throws `IndexOutOfBoundsException` if there is no such index", this::noSuchIndex);
        runMore();
    }

    private void runMore() {
        document.test(36, "Returns the mean smoke of all sides: the sum divided by their number, both as floats.",
            this::meanSmoke);
        document.test(36, "Returns the bits of the mean, as by Float.floatToIntBits.", this::meanBits);
        document.test(36, "Throws `ArithmeticException` if there are no fish", () -> noFish(SmokeRacks::meanSmoke));
        document.test(37, "Returns what part of all fish is burnt: the one number divided by the other, both as doubles.",
            this::burntShare);
        document.test(37, "Throws `ArithmeticException` if there are no fish", () -> noFish(SmokeRacks::burntShare));
        document.test(38, "`what`: 0 for the fish, 1 for those in brine, 2 for those that hang, 3 for the logs, 4 for the wood, 5 for"
            + " the hours so far, 6 for the days so far, 7 for the fish sold so far, 8 for what they were sold for so far, 9 for"
            + " those thrown away so far, 10 for the changes that can be undone, 11 for the characters in the text buffer",
            this::eachAccount);
        document.test(38, "Throws `IllegalArgumentException` if what is not from 0 to 11", this::noSuchAccount);
        document.test(39, "Undoes the latest call that can be undone.", this::undoesTheLatest);
        document.test(39, "Returns the number of calls that can still be undone.", this::stillUndone);
        document.test(39, "Throws `IllegalStateException` if there is none", this::noneToUndo);
        document.test(40, "Saves all that can be undone, in place of an earlier snapshot.", this::laterSnapshot);
        document.test(40, "Returns how many fish there are.", this::savedFish);
        document.test(41, "Restores what was saved; the snapshot is kept.", this::keptSnapshot);
        document.test(41, "Returns how many fish there are.", this::restoredFish);
        document.test(41, "Throws `IllegalStateException` if there is no snapshot", this::noSnapshot);
    }

    private void bufferLength() {
        SmokeRacks house = new SmokeRacks();
        for (int length = 1; length <= 60; length++) {
            check.due("the length", house.append((char) (length * 1111)), length);
            check.due("the account", house.account(11), length);
        }
        check.raises("a fault", BAD, house::commands);
        check.due("of an emptied buffer", house.append((char) 0), 1);
    }

    private void fullBuffer() {
        SmokeRacks house = new SmokeRacks();
        Houses.append(house, "d;".repeat(29) + "d");
        check.due("the 60th", house.append(';'), 60);
        check.leaves("a 61st", house, NOT_NOW, () -> house.append('d'));
        check.leaves("a 62nd", house, NOT_NOW, () -> house.append(';'));
        check.raises("the text ends too early", BAD, house::commands);
        check.due("behind the 60 characters", house.faultPosition(), 60);
    }

    private void oneAfterTheOther() {
        SmokeRacks house = new SmokeRacks();
        Houses.carryOut(house, "f1;f2;x0;b0;d");
        check.due("one after the other", View.line(house, house.line(0)), "2*2/0~0!/0~0");
        String before = View.of(house);
        for (String text : new String[] {"w0;f1", "f1;w0;f2", "f1;f2;w0", "x0;d", "f1;x0;l1;w1;l12"}) {
            check.raises(text, REFUSED, () -> Houses.carryOut(house, text));
            check.due("none of " + text, View.of(house), before);
        }
    }

    private void emptyAfterwards() {
        SmokeRacks house = Houses.ofMany(1);
        house.brine(0);
        for (String text : new String[] {"d", "d;d", "w0", "d;w0;d", "", "?", "d;?", "d;d;?;d;d", "?".repeat(60)}) {
            String thrown = Check.thrownBy(() -> Houses.carryOut(house, text));
            check.due("afterwards, thrown was " + thrown, house.account(11), 0);
            check.due("the next text", Houses.carryOut(house, "d"), 1);
        }
    }

    private void howManyCommands() {
        SmokeRacks house = Houses.ofMany(1);
        house.brine(0);
        check.due("one", Houses.carryOut(house, "n24"), 1);
        check.due("two", Houses.carryOut(house, "n24;n1"), 2);
        check.due("a full buffer", Houses.carryOut(house, "n1;".repeat(19) + "n24"), 20);
        check.due("the most there can be", Houses.carryOut(house, "d;".repeat(29) + "d"), 30);
        check.due("all were carried out", house.account(5) * 100 + house.account(6), (24 + 25 + 43) * 100 + 30);
    }

    private void faultyText() {
        SmokeRacks house = Houses.ofMany(1);
        house.brine(0);
        for (String text : new String[] {"", "?", "d;", "d;?", "w0;", ";d"}) {
            Houses.append(house, text);
            String before = View.of(house);
            check.raises("the text " + text, BAD, house::commands);
            check.due("the state after " + text, View.of(house), before);
            check.due("the reason after " + text, View.reason(house), "none");
        }
    }

    private void refusedText() {
        SmokeRacks house = Houses.ofMany(1);
        house.brine(0);
        check.raises("the last one", REFUSED, () -> Houses.carryOut(house, "d;d;t0"));
        check.due("its reason", View.reason(house), "7 1 2");
        check.raises("the first one", REFUSED, () -> Houses.carryOut(house, "x99;f0;d"));
        check.due("its reason, not that of the second", View.reason(house), "3 1 0");
        check.raises("one with a number too large", REFUSED, () -> Houses.carryOut(house, "d;h0/49"));
        check.due("its reason, ahead of where the fish is", View.reason(house), "1 0 1");
        check.raises("one with a number too small", REFUSED, () -> Houses.carryOut(house, "l00"));
        check.due("its reason", View.reason(house), "1 0 0");
    }

    private void latestFault() {
        SmokeRacks house = Houses.with(1);
        check.raises("at the third", BAD, () -> Houses.carryOut(house, "w1?"));
        check.due("the third", house.faultPosition(), 2);
        Houses.append(house, "????");
        check.due("before the next call", house.faultPosition(), 2);
        check.raises("at the first", BAD, house::commands);
        check.due("the first", house.faultPosition(), 0);
        check.raises("behind the last", BAD, () -> Houses.carryOut(house, "w"));
        check.due("the length", house.faultPosition(), 1);
        check.raises("an empty text", BAD, house::commands);
        check.due("its length", house.faultPosition(), 0);
    }

    private void noFault() {
        SmokeRacks house = new SmokeRacks();
        check.due("no such call", house.faultPosition(), -1);
        house.append('?');
        check.due("a fault in the buffer alone", house.faultPosition(), -1);
        check.raises("a fault", BAD, house::commands);
        check.due("its position", house.faultPosition(), 0);
        Houses.carryOut(house, "w1");
        check.due("carried out", house.faultPosition(), -1);
        check.raises("a fault again", BAD, house::commands);
        check.raises("refused", REFUSED, () -> Houses.carryOut(house, "w1"));
        check.due("refused, but no fault", house.faultPosition(), -1);
    }

    private void reasonNumbers() {
        SmokeRacks house = Houses.with(9);
        check.raises("a refused text", REFUSED, () -> Houses.carryOut(house, "w1;w2;w3;s0"));
        check.due("0", house.reason(0), 10);
        check.due("1", house.reason(1), 28);
        check.due("2", house.reason(2), 3);
    }

    private void noSuchNumber() {
        SmokeRacks house = Houses.with(9);
        check.raises("a refused call", REFUSED, () -> house.sell(0));
        SmokeRacks empty = new SmokeRacks();
        check.leaves("3", house, BAD, () -> house.reason(3));
        check.leaves("3, and nothing was refused", empty, BAD, () -> empty.reason(3));
        for (int what : BELOW_AND_ABOVE) {
            check.leaves("" + what, house, BAD, () -> house.reason(what));
            check.leaves(what + ", and nothing was refused", empty, BAD, () -> empty.reason(what));
        }
    }

    private void nothingRefused() {
        SmokeRacks house = new SmokeRacks();
        noReason("at first", house);
        house.fish(1);
        check.raises("another exception", NO_INDEX, () -> house.line(1));
        check.raises("a fault", BAD, house::commands);
        check.raises("no snapshot", NOT_NOW, house::restore);
        check.raises("nothing to be found", NONE, house::hottest);
        noReason("after those", house);
    }

    private void noReason(String when, SmokeRacks house) {
        for (int what = 0; what < 3; what++) {
            int asked = what;
            check.leaves(what + " " + when, house, NONE, () -> house.reason(asked));
        }
    }

    private void rackLine() {
        SmokeRacks house = Houses.ofMany(12);
        house.rack(0);
        check.due("an empty one", View.line(house), "..........");
        for (int fish = 0; fish < 12; fish++) {
            house.hang(fish, fish < 10 ? 2 : 3, fish < 10 ? 9 - fish : fish - 2);
        }
        house.rack(2);
        check.due("a full one", View.line(house), "jihgfedcba");
        house.rack(3);
        check.due("the last letters", View.line(house), "........kl");
        house.logs(12);
        house.hours(1);
        check.due("with char 8", house.sideOf(0, 0, true), 8);
        house.rack(2);
        check.due("with char 8", View.line(house), "jihgfedcba");
        house.turn(9);
        house.turn(11);
        house.hours(1);
        house.rack(2);
        check.due("burnt but for one", View.line(house), "jIHGFEDCBA");
        house.rack(3);
        check.due("the last letters", View.line(house), "........Kl");
        house.line(0);
        house.rack(1);
        check.due("in place of a longer line", View.line(house), "..........");
        SmokeRacks example = Houses.ofMany(2);
        example.hang(1, 0, 3);
        example.logs(11);
        example.hours(1);
        example.hang(0, 0, 0);
        example.rack(0);
        check.due("the example", View.line(example), "a..B......");
    }

    private void rackLength() {
        SmokeRacks house = Houses.hanging(2, 1, 1, 1, 1, 1, 1, 1, 1, 1, 1);
        check.due("of an empty one", house.rack(0), 10);
        check.due("of a full one", house.rack(2), 10);
        house.line(0);
        check.due("after a longer line", house.rack(3), 10);
    }

    private void noSuchRack() {
        SmokeRacks house = Houses.hanging(3, 1);
        house.line(0);
        check.leaves("4", house, NO_INDEX, () -> house.rack(4));
        for (int rack : BELOW_AND_ABOVE) {
            check.leaves("" + rack, house, NO_INDEX, () -> house.rack(rack));
        }
        check.due("3", View.line(house, house.rack(3)), "a.........");
    }

    /** A fish with the smoke 40 and the char 9 on both sides, the side 1 down. */
    private static SmokeRacks longest() {
        SmokeRacks house = Houses.smoking(1, 12, 3);
        house.hours(3);
        house.turn(0);
        house.logs(3);
        house.hours(4);
        return house;
    }

    private void fishLine() {
        SmokeRacks house = Houses.salted(9, 9, 9);
        house.rack(0);
        house.line(0);
        check.due("with the most weight and salt", View.line(house), "9*9/0~0!/0~0");
        house.hours(1);
        house.line(0);
        check.due("smoke of one digit", View.line(house), "9*9/9~4!/0~0");
        house.logs(2);
        house.turn(0);
        house.hours(1);
        house.line(0);
        check.due("smoke of two digits", View.line(house), "9*9/9~4/10~0!");
        SmokeRacks most = longest();
        most.line(0);
        check.due("the longest line", View.line(most), "1*0/40~9/40~9!");
        most.line(most.fish(2));
        check.due("a shorter one in its place", View.line(most), "2*0/0~0!/0~0");
        everyNumber();
        example();
    }

    /** Each smoke and each char that there can be. */
    private void everyNumber() {
        SmokeRacks house = Houses.hanging(0, 1);
        for (int smoke = 1; smoke <= 40; smoke++) {
            house.logs(1);
            house.hours(1);
            house.line(0);
            check.due("smoke " + smoke, View.line(house), "1*0/" + smoke + "~0!/0~0");
        }
        house.turn(0);
        house.hours(1);
        for (int burnt = 1; burnt <= 9; burnt++) {
            house.logs(3);
            house.hours(3);
            house.line(0);
            check.due("char " + burnt, View.line(house), "1*0/40~0/" + Math.min(40, 6 * burnt) + "~" + burnt + "!");
        }
    }

    /** The side 1 gets half of 6 smoke and 2 char, crowded; the side 0, turned down and alone, 12 smoke and no char. */
    private void example() {
        SmokeRacks house = Houses.salted(5, 4, 5);
        house.wood(1);
        house.turn(0);
        house.out(0);
        house.hang(0, 0, 0);
        house.hang(house.fish(1), 0, 1);
        house.hours(1);
        house.throwAway(1);
        house.turn(0);
        house.logs(7);
        house.hours(1);
        house.line(0);
        check.due("the example", View.line(house), "5*4/12~0!/3~2");
    }

    private void fishLength() {
        check.due("the shortest", Houses.with(1).line(0), 12);
        SmokeRacks house = Houses.smoking(1, 10, 0);
        house.hours(1);
        check.due("with 10 on a side", house.line(0), 13);
        SmokeRacks nine = Houses.smoking(1, 9, 0);
        nine.hours(1);
        check.due("with 9 on a side", nine.line(0), 12);
        SmokeRacks most = longest();
        check.due("the longest", most.line(0), 14);
        check.due("a shorter one after it", most.line(most.fish(1)), 12);
    }

    private void noSuchFish() {
        for (int many : new int[] {0, 1, 12}) {
            SmokeRacks house = Houses.ofMany(many);
            house.rack(0);
            check.leaves(many + " of " + many, house, NO_INDEX, () -> house.line(many));
            for (int fish : BELOW_AND_ABOVE) {
                check.leaves(fish + " of " + many, house, NO_INDEX, () -> house.line(fish));
            }
            if (many > 0) {
                check.due("the last of " + many, house.line(many - 1), 12);
            }
        }
    }

    private void emptyLine() {
        SmokeRacks house = Houses.with(3);
        check.leaves("at first", house, NO_INDEX, () -> house.character(0));
        check.raises("no such fish", NO_INDEX, () -> house.line(1));
        check.leaves("after a line that was not written", house, NO_INDEX, () -> house.character(0));
        house.line(0);
        check.due("the first", house.character(0), '3');
        check.due("the last", house.character(11), '0');
    }

    private void indexes() {
        SmokeRacks house = Houses.with(3);
        house.line(0);
        String line = "3*0/0~0!/0~0";
        for (int index = 0; index < line.length(); index++) {
            check.due("" + index, house.character(index), line.charAt(index));
        }
    }

    private void noSuchIndex() {
        SmokeRacks house = Houses.with(3);
        house.line(0);
        check.leaves("12 of twelve", house, NO_INDEX, () -> house.character(12));
        for (int index : BELOW_AND_ABOVE) {
            check.leaves("" + index, house, NO_INDEX, () -> house.character(index));
        }
        house.rack(0);
        check.due("9 of ten", house.character(9), '.');
        check.leaves("10 of ten", house, NO_INDEX, () -> house.character(10));
        check.leaves("11 of ten, though the line before was longer", house, NO_INDEX, () -> house.character(11));
        SmokeRacks most = longest();
        most.line(0);
        check.due("13 of fourteen", most.character(13), '!');
        check.leaves("14 of fourteen", most, NO_INDEX, () -> most.character(14));
    }

    private void meanSmoke() {
        SmokeRacks house = Houses.smoking(1, 1, 0);
        house.hours(1);
        check.due("1 by 2", house.meanSmoke(), Float.floatToIntBits(1f / 2f));
        for (int fish = 1; fish < 12; fish++) {
            house.fish(1);
            float due = 1f / (float) (2 * fish + 2);
            check.due("1 by " + (2 * fish + 2), house.meanSmoke(), Float.floatToIntBits(due));
        }
        SmokeRacks full = Houses.ofMany(12);
        for (int fish = 0; fish < 12; fish++) {
            full.hang(fish, fish / 4, fish % 4 * 3);
        }
        full.wood(3);
        for (int hour = 1; hour <= 40; hour++) {
            if (full.account(3) < 10) {
                full.logs(2);
            }
            full.turnAll(hour % 3);
            full.hours(1);
            check.due("hour " + hour, full.meanSmoke(), Float.floatToIntBits((float) allSmoke(full) / 24f));
        }
    }

    private static int allSmoke(SmokeRacks house) {
        int sum = 0;
        for (int fish = 0; fish < house.account(0); fish++) {
            sum += house.sideOf(fish, 0, false) + house.sideOf(fish, 1, false);
        }
        return sum;
    }

    private void meanBits() {
        check.due("0", Houses.with(1).meanSmoke(), 0);
        SmokeRacks small = Houses.hanging(0, 1);
        small.logs(1);
        small.hours(1);
        for (int fish = 1; fish < 12; fish++) {
            small.fish(1);
        }
        check.due("1 by 24, the least", small.meanSmoke(), 0x3d2aaaab);
        SmokeRacks most = Houses.smoking(1, 12, 3);
        most.hours(6);
        check.due("40 by 2", most.meanSmoke(), 0x41a00000);
        most.turn(0);
        most.hours(6);
        check.due("79 by 2", most.meanSmoke(), 0x421e0000);
        most.logs(1);
        most.hours(1);
        check.due("80 by 2, the most", most.meanSmoke(), 0x42200000);
        everyMean();
    }

    /** One fish among others, from no smoke to the most: the bits of each mean on the way. */
    private void everyMean() {
        for (int others = 0; others < 12; others++) {
            SmokeRacks house = Houses.hanging(0, 1);
            for (int fish = 0; fish < others; fish++) {
                house.fish(1);
            }
            for (int smoke = 1; smoke <= 80; smoke++) {
                house.logs(1);
                house.hours(1);
                float mean = (float) smoke / (float) (2 * others + 2);
                check.due(smoke + " among " + others, house.meanSmoke(), Float.floatToIntBits(mean));
                if (smoke == 40) {
                    house.turn(0);
                }
            }
        }
    }

    private interface OfHouse {
        Object of(SmokeRacks house);
    }

    private void noFish(OfHouse call) {
        SmokeRacks house = new SmokeRacks();
        check.leaves("in a new house", house, NO_DIVISOR, () -> call.of(house));
        house.hang(house.fish(1), 0, 0);
        house.logs(12);
        house.hours(1);
        check.due("with a fish", Check.thrownBy(() -> call.of(house)), "nothing");
        house.throwAway(0);
        check.leaves("in an emptied one", house, NO_DIVISOR, () -> call.of(house));
    }

    private void burntShare() {
        check.due("none of one", Houses.with(1).burntShare(), 0.0);
        SmokeRacks house = Houses.smoking(1, 12, 0);
        house.hours(1);
        check.due("all", house.burntShare(), 1.0);
        for (int all = 2; all <= 12; all++) {
            house.fish(1);
            check.due("1 of " + all, house.burntShare(), 1.0 / (double) all);
        }
        SmokeRacks full = Houses.ofMany(12);
        for (int fish = 0; fish < 12; fish++) {
            full.logs(12 - full.account(3));
            full.hang(fish, 0, 0);
            full.hours(1);
            full.out(fish);
            check.due(fish + 1 + " of 12", full.burntShare(), (double) (fish + 1) / 12.0);
        }
    }

    private void eachAccount() {
        SmokeRacks house = new SmokeRacks();
        check.due("at first", accounts(house), "0 0 0 0 0 0 0 0 0 0 0 0");
        Houses.carryOut(house, "f1;f2;f3;f4;b1;b2;h0/00;l7;w3;t0;n1;t0;n1;d;d;d");
        check.due("after a text", accounts(house), "4 2 1 5 3 2 3 0 0 0 1 0");
        house.sell(0);
        house.throwAway(2);
        house.hours(24);
        check.due("sold, thrown away, and the logs burnt", accounts(house), "2 2 0 0 3 26 3 1 3 1 4 0");
        for (int day = 0; day < 9; day++) {
            house.day();
            house.append('?');
        }
        check.due("with the most that can be undone", accounts(house), "2 2 0 0 3 26 12 1 3 1 8 9");
        Houses.append(house, "?".repeat(51));
        house.throwAway(0);
        house.throwAway(0);
        check.due("an emptied house, and a full buffer", accounts(house), "0 0 0 0 3 26 12 1 3 3 8 60");
    }

    private static String accounts(SmokeRacks house) {
        StringBuilder text = new StringBuilder();
        for (int what = 0; what < 12; what++) {
            text.append(what == 0 ? "" : " ").append(house.account(what));
        }
        return text.toString();
    }

    private void noSuchAccount() {
        SmokeRacks house = Houses.with(1);
        house.append('?');
        check.due("0", house.account(0), 1);
        check.due("11", house.account(11), 1);
        check.leaves("12", house, BAD, () -> house.account(12));
        for (int what : BELOW_AND_ABOVE) {
            check.leaves("" + what, house, BAD, () -> house.account(what));
        }
    }

    private void undoesTheLatest() {
        SmokeRacks house = Houses.with(1, 2);
        house.logs(12);
        String before = View.withoutHistory(house);
        Houses.carryOut(house, "f3;n9;x0;w2");
        check.raises("a refused one", REFUSED, () -> house.logs(12));
        house.undo();
        check.due("the commands, all at once", View.withoutHistory(house), before);
        house.undo();
        check.due("the one before", house.account(3), 0);
        house.logs(3);
        house.undo();
        check.due("one after undo", house.account(3), 0);
        house.undo();
        check.due("and the one before it", house.account(0), 1);
    }

    private void stillUndone() {
        SmokeRacks one = Houses.with(1);
        check.due("of one", one.undo(), 0);
        for (int many : new int[] {8, 9, 12}) {
            SmokeRacks house = Houses.ofMany(many);
            for (int left = 7; left >= 0; left--) {
                check.due("how many", house.undo(), left);
                check.due("the account", house.account(10), left);
                check.due("what is left", house.account(0), left + many - 8);
            }
        }
    }

    private void noneToUndo() {
        SmokeRacks nine = Houses.ofMany(9);
        for (int time = 0; time < 8; time++) {
            nine.undo();
        }
        check.leaves("after the latest 8", nine, NOT_NOW, nine::undo);
        SmokeRacks house = new SmokeRacks();
        check.leaves("in a new house", house, NOT_NOW, house::undo);
        check.raises("a refused call", REFUSED, () -> house.fish(0));
        check.leaves("after a refused call", house, NOT_NOW, house::undo);
        house.append('f');
        check.raises("a fault", BAD, house::commands);
        check.leaves("after a fault", house, NOT_NOW, house::undo);
        check.raises("a refused text", REFUSED, () -> Houses.carryOut(house, "f1;f0"));
        check.leaves("after a refused text", house, NOT_NOW, house::undo);
        house.save();
        check.leaves("after save", house, NOT_NOW, house::undo);
        house.fish(1);
        house.restore();
        check.leaves("after restore", house, NOT_NOW, house::undo);
        house.fish(1);
        house.undo();
        check.leaves("when all is undone", house, NOT_NOW, house::undo);
    }

    private void laterSnapshot() {
        SmokeRacks house = Houses.ofMany(12);
        house.save();
        Houses.carryOut(house, "x0;h0/39;h1/00;b2;d;l12;w3;n1;t0");
        String saved = View.withoutHistory(house);
        house.save();
        Houses.carryOut(house, "x0;x0;x0;x0;x0;x0;x0;x0;x0;x0;x0;n24");
        house.restore();
        check.due("the later one", View.withoutHistory(house), saved);
        SmokeRacks kept = Houses.with(1);
        kept.save();
        check.due("what can be undone stays", kept.undo(), 0);
        kept.restore();
        check.due("a fish that was undone since", kept.account(0), 1);
    }

    private void savedFish() {
        SmokeRacks house = new SmokeRacks();
        check.due("in a new house", house.save(), 0);
        for (int fish = 1; fish <= 12; fish++) {
            house.fish(1);
            check.due("in one with a snapshot", house.save(), fish);
        }
        house.throwAway(11);
        check.due("in one with a fish less", house.save(), 11);
    }

    private void keptSnapshot() {
        SmokeRacks house = Houses.smoking(2, 12, 1);
        house.save();
        String saved = View.withoutHistory(house);
        for (int time = 0; time < 3; time++) {
            Houses.carryOut(house, "t0;n1;f1;f1;b1;d;x0");
            house.undo();
            house.hours(24);
            house.restore();
            check.due("what was saved", View.withoutHistory(house), saved);
        }
        SmokeRacks empty = new SmokeRacks();
        empty.save();
        empty.restore();
        check.due("nothing, right after", View.whole(empty), View.whole(new SmokeRacks()));
    }

    private void restoredFish() {
        SmokeRacks house = Houses.ofMany(1);
        house.save();
        Houses.carryOut(house, "f1;f1;f1");
        check.due("of four", house.restore(), 1);
        house.throwAway(0);
        check.due("of none", house.restore(), 1);
        check.due("of one", house.restore(), 1);
        SmokeRacks full = new SmokeRacks();
        full.save();
        for (int fish = 0; fish < 12; fish++) {
            full.fish(1);
        }
        check.due("of twelve", full.restore(), 0);
        SmokeRacks emptied = Houses.ofMany(12);
        emptied.save();
        for (int fish = 11; fish >= 0; fish--) {
            emptied.throwAway(fish);
        }
        check.due("of none to twelve", emptied.restore(), 12);
    }

    private void noSnapshot() {
        SmokeRacks house = new SmokeRacks();
        check.leaves("in a new house", house, NOT_NOW, house::restore);
        house.fish(1);
        check.leaves("in a house with a fish", house, NOT_NOW, house::restore);
        house.undo();
        check.leaves("after undo", house, NOT_NOW, house::restore);
        house.save();
        check.due("with a snapshot", house.restore(), 0);
    }
}
