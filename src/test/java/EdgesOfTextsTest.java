import java.util.NoSuchElementException;

/** A test for each sentence of the document's terms from its texts on: faults, reasons, changes, details, exceptions. */
final class EdgesOfTextsTest {
    private static final Class<IllegalArgumentException> BAD = IllegalArgumentException.class;
    private static final Class<IllegalStateException> NOT_NOW = IllegalStateException.class;
    private static final Class<IndexOutOfBoundsException> NO_INDEX = IndexOutOfBoundsException.class;
    private static final Class<NoSuchElementException> NONE = NoSuchElementException.class;
    private static final Class<UnsupportedOperationException> REFUSED = UnsupportedOperationException.class;
    private static final String THIRTY = "d;d;d;d;d;d;d;d;d;d;d;d;d;d;d;d;d;d;d;d;d;d;d;d;d;d;d;d;d;d";

    private final Check check;
    private final Document document;

    EdgesOfTextsTest(Check check, Document document) {
        this.check = check;
        this.document = document;
    }

    void run() {
        test("The text buffer holds one or more commands with \";\" between them: \"f\" and a weight lets a fish come; \"b\" and a"
            + " fish lays it into brine; \"o\" and a fish takes it out of brine, or off its hook; \"h\", a fish, \"/\", a rack and"
            + " a hook hangs it; \"t\" and a fish turns it; \"a\" and a rack turns all its fish; \"l\" and a number lays logs;"
            + " \"w\" and a wood tells the wood; \"d\" lets a day go by; \"n\" and a number lets hours go by; \"s\" and a fish sells"
            + " it; \"x\" and a fish throws it away.", this::oneOrMoreCommands);
        test("Fish are 1 or 2 digits, as are logs and hours, all else one.", this::digits);
        test("The fault position of a text is the index of its first character that cannot continue such a text, or the length of"
            + " the text if it ends too early.", this::faultPosition);
        test("The commands are carried out as the methods would, all of them or none.", this::allOrNone);
        test("Something is refused for the first that applies of the reasons that its method names, in the order in which it names"
            + " them: 1, a number is out of range; 2, there would be more fish, or logs, than there can be: how many there can be;"
            + " 3, there is no such fish: how many there are; 4, the fish is not outside: 1 in brine, 2 on a hook; 5, the fish is"
            + " outside already: its number; 6, the hook has a fish: this; 7, the fish does not hang: 0 outside, 1 in brine; 8,"
            + " nothing is there for that: 0; 9, it is so already: the wood; 10, the fish is not done: how much smoke it lacks on"
            + " both sides, or 100 if it is burnt.", this::eachReason);
        test("If nothing else is told, the detail is 0.", this::noDetail);
        test("The reason is kept with the index of the command of a text, from 0, or 0 for another call.", this::indexOfCommand);
        test("What can be undone are the successful calls of fish, brine, out, hang, turn, turnAll, logs, wood, day, hours, sell,"
            + " throwAway and commands.", this::whatCanBeUndone);
        test("What there was before each of the latest 8 is kept; restore forgets it.", this::latestEight);
        test("The text buffer, the fault position, the reason and the line do not belong to it, and stay.", this::whatStays);
        test("Char is held at 9, and smoke at 40.", this::heldAt);
        test("A burnt fish hangs on, gets smoke, and can be turned.", this::burntFish);
        test("A fish that is taken off its hook keeps its smoke and char, and the side that is down, but this is not turned down"
            + " any more.", this::offItsHook);
        test("Hours without logs let nothing happen, but they go by, and a side that was turned down is not any more then.",
            this::withoutLogs);
        test("The hook on which a fish hangs counts as free for itself.", this::ownHook);
        test("What is lacking on a side is never below 0.", this::lacking);
        test("A call that throws an exception leaves the state unchanged, unless stated otherwise.", this::unchanged);
        test("If several conditions of a method are fulfilled, the one that is listed first determines the exception.",
            this::listedFirst);
    }

    private void test(String sentence, Runnable test) {
        document.test(Document.TERMS, sentence, test);
    }

    private void oneOrMoreCommands() {
        SmokeRacks house = Houses.with(1);
        house.brine(0);
        check.due("no command", faultOf(house, ""), 0);
        check.due("nothing between two", faultOf(house, ";"), 0);
        check.due("nothing ahead of a sign between", faultOf(house, ";d"), 0);
        check.due("nothing behind it", faultOf(house, "d;"), 2);
        check.due("nothing between two signs", faultOf(house, "d;;d"), 2);
        check.due("nothing between two commands", faultOf(house, "dd"), 1);
        check.due("one command", Houses.carryOut(house, "d"), 1);
        check.due("two commands", Houses.carryOut(house, "d;d"), 2);
        check.due("as many as there can be", Houses.carryOut(house, THIRTY), 30);
        check.due("all but two", Houses.carryOut(house, "o0;f9;h1/39;h0/00;t1;a3;l12;w3;n1;t0;n01;x01"), 12);
        check.due("what they did", View.line(house, house.line(0)), "1*9/15~7/14~0!");
        check.due("the last of them", Houses.carryOut(house, "s0"), 1);
        check.due("fish, logs, wood, hours, days, sold, thrown", house.account(0) + " " + house.account(3) + " " + house.account(4)
            + " " + house.account(5) + " " + house.account(6) + " " + house.account(7) + " " + house.account(9), "0 10 3 2 33 1 1");
    }

    /** The fault position of a text that has a fault. */
    private int faultOf(SmokeRacks house, String text) {
        String before = View.of(house);
        String reason = View.reason(house);
        Houses.append(house, text);
        check.raises("commands of \"" + text + "\"", BAD, house::commands);
        check.due("state after \"" + text + "\"", View.of(house), before);
        check.due("reason after \"" + text + "\"", View.reason(house), reason);
        check.due("buffer after \"" + text + "\"", house.account(11), 0);
        return house.faultPosition();
    }

    private void digits() {
        SmokeRacks house = new SmokeRacks();
        for (char kind : "botlnsx".toCharArray()) {
            check.due("no digit", faultOf(house, kind + ";"), 1);
            check.due("1 digit", formOf(kind + "0"), "right");
            check.due("2 digits", formOf(kind + "99"), "right");
            check.due("3 digits", faultOf(house, kind + "000"), 3);
        }
        for (char kind : "fwa".toCharArray()) {
            check.due("no digit", faultOf(house, kind + ";"), 1);
            check.due("1 digit", formOf(kind + "0"), "right");
            check.due("the greatest digit", formOf(kind + "9"), "right");
            check.due("2 digits", faultOf(house, kind + "01"), 2);
        }
        check.due("no digit for a fish", faultOf(house, "h/00"), 1);
        check.due("1 digit for a fish", formOf("h0/00"), "right");
        check.due("2 digits for a fish", formOf("h99/99"), "right");
        check.due("3 digits for a fish", faultOf(house, "h000/00"), 3);
        check.due("no digit for a hook", faultOf(house, "h0/0;"), 4);
        check.due("2 digits for a hook", faultOf(house, "h0/000"), 5);
        check.due("a digit for a day", faultOf(house, "d1"), 1);
        check.due("the sign ahead of 0", faultOf(house, "f/"), 1);
        check.due("the sign behind 9", faultOf(house, "f:"), 1);
        check.due("a digit that is none of these ten", faultOf(house, "f" + (char) 0x661), 1);
        SmokeRacks both = Houses.with(1);
        check.due("a 0 ahead of a digit", Houses.carryOut(both, "l09;n01;h00/31"), 3);
        check.due("is the same number", both.account(3) * 10 + both.at(3, 1), 80);
    }

    private static String formOf(String text) {
        SmokeRacks house = new SmokeRacks();
        Houses.append(house, text);
        try {
            house.commands();
            return "right";
        } catch (UnsupportedOperationException refused) {
            return "right";
        } catch (IllegalArgumentException fault) {
            return "wrong";
        }
    }

    private void faultPosition() {
        SmokeRacks house = new SmokeRacks();
        check.due("the first character", faultOf(house, "q;q"), 0);
        check.due("the first of two faults", faultOf(house, "f1;h1/2x;q"), 7);
        check.due("the last character", faultOf(house, "f1;f2;D"), 6);
        check.due("it ends at once", faultOf(house, ""), 0);
        check.due("it ends behind a letter", faultOf(house, "f"), 1);
        check.due("it ends behind a sign between", faultOf(house, "f1;"), 3);
        check.due("it ends behind the fish to hang", faultOf(house, "h1"), 2);
        check.due("it ends behind both its digits", faultOf(house, "h11"), 3);
        check.due("it ends behind the stroke", faultOf(house, "h1/"), 3);
        check.due("it ends behind the rack", faultOf(house, "h1/2"), 4);
        check.due("it ends when the buffer is full", faultOf(house, THIRTY + ";"), 60);
        check.due("the last of a full buffer", faultOf(house, THIRTY + "d"), 59);
        check.due("a small letter as a capital", faultOf(house, "F1"), 0);
        for (int sign : new int[] {0, 9, 10, 32, 46, 48, 57, 58, 60, 127, 128, 255, 256 + 'd', 0xffff}) {
            check.due("the character " + sign + " in place of a command", faultOf(house, "" + (char) sign), 0);
        }
        for (int sign : new int[] {0, 32, 46, 47, 58, 60, 127, 255, 256 + ';', 0xffff}) {
            check.due("the character " + sign + " behind a command", faultOf(house, "d" + (char) sign + "d"), 1);
        }
    }

    private void allOrNone() {
        SmokeRacks house = Houses.with(3, 4);
        String before = View.of(house);
        for (String text : new String[] {"f0", "x0;f0", "h0/00;l12;w3;n9;x1;f9;w3", "f1;f1;f1;f1;f1;f1;f1;f1;f1;f1;f1", "x0;x0;x0"}) {
            Houses.append(house, text);
            check.raises(text, REFUSED, house::commands);
            check.due("none of " + text, View.of(house), before);
        }
        check.due("all", Houses.carryOut(house, "h0/00;l12;w3;n9;x1;f9;w2"), 7);
        SmokeRacks byMethods = Houses.with(3, 4);
        byMethods.hang(0, 0, 0);
        byMethods.logs(12);
        byMethods.wood(3);
        byMethods.hours(9);
        byMethods.throwAway(1);
        byMethods.fish(9);
        byMethods.wood(2);
        check.due("as the methods would", house.account(10), 3);
        byMethods.save();
        byMethods.restore();
        house.save();
        house.restore();
        check.due("as the methods would", View.of(house), View.of(byMethods));
    }

    private void eachReason() {
        SmokeRacks house = Houses.with(9, 8, 7, 6);
        house.brine(1);
        house.hang(2, 0, 5);
        house.logs(12);
        check.refused("1, also if there are too many logs", house, 1, 0, () -> house.logs(13));
        check.refused("2", house, 2, 12, () -> house.logs(1));
        check.refused("1, also if there is no such fish", house, 1, 0, () -> house.hang(4, 0, 10));
        check.refused("1, also if the fish is not outside", house, 1, 0, () -> house.hang(1, 4, 5));
        check.refused("3, also if the hook has a fish", house, 3, 4, () -> house.hang(4, 0, 5));
        check.refused("4, in brine, also if the hook has a fish", house, 4, 1, () -> house.hang(1, 0, 5));
        check.refused("4, on the very hook", house, 4, 2, () -> house.hang(2, 0, 5));
        check.refused("5", house, 5, 3, () -> house.out(3));
        check.refused("6", house, 6, 2, () -> house.hang(3, 0, 5));
        check.refused("7, outside", house, 7, 0, () -> house.turn(0));
        check.refused("7, in brine", house, 7, 1, () -> house.turn(1));
        check.refused("8, none hangs there", house, 8, 0, () -> house.turnAll(3));
        check.refused("9", house, 9, 0, () -> house.wood(0));
        check.refused("10, without smoke", house, 10, 28, () -> house.sell(0));
        house.hours(1);
        check.refused("10, burnt", house, 10, 100, () -> house.sell(2));
        for (int fish = 4; fish < 12; fish++) {
            house.fish(1);
        }
        check.refused("2, of fish", house, 2, 12, () -> house.fish(1));
        check.refused("1, also if there are too many fish", house, 1, 0, () -> house.fish(0));
        check.refused("3, with all there can be", house, 3, 12, () -> house.sell(12));
        SmokeRacks empty = new SmokeRacks();
        check.refused("3, with none", empty, 3, 0, () -> empty.turn(0));
        check.refused("8, none in brine", empty, 8, 0, empty::day);
    }

    private void noDetail() {
        SmokeRacks house = Houses.with(1, 1, 1);
        check.refused("a reason with a detail", house, 3, 3, () -> house.brine(9));
        check.refused("a weight after it", house, 1, 0, () -> house.fish(10));
        check.refused("a reason with a detail", house, 3, 3, () -> house.brine(9));
        check.refused("a rack after it", house, 1, 0, () -> house.turnAll(4));
        check.refused("hours after it", house, 1, 0, () -> house.hours(99));
        check.refused("logs after it", house, 1, 0, () -> house.logs(99));
        check.refused("a wood after it", house, 1, 0, () -> house.wood(99));
        check.refused("a hook after it", house, 1, 0, () -> house.hang(0, 0, 99));
    }

    private void indexOfCommand() {
        SmokeRacks house = new SmokeRacks();
        Houses.append(house, "w0");
        check.raises("the first command", REFUSED, house::commands);
        check.due("its index", View.reason(house), "9 0 0");
        Houses.append(house, "l01;l1;l1;l1;l1;l1;l1;l1;l1;l1;l1;l1;n1;f1;b0;d;d;d;d;d;d;f0");
        check.due("the length", house.account(11), 60);
        check.raises("the last command of a full buffer", REFUSED, house::commands);
        check.due("its index", View.reason(house), "1 0 21");
        check.refused("another call", house, 9, 0, () -> house.wood(0));
        Houses.append(house, "f1;f1;x2");
        check.raises("the third command", REFUSED, house::commands);
        check.due("its index, and how many there were then", View.reason(house), "3 2 2");
        check.due("commands that succeed", Houses.carryOut(house, "f1;f1;f1"), 3);
        check.due("keep the reason", View.reason(house), "3 2 2");
        check.refused("a call after those", house, 3, 3, () -> house.turn(3));
    }

    private interface Change {
        int of(SmokeRacks house);
    }

    private void whatCanBeUndone() {
        undone("fish", house -> house.fish(1));
        undone("brine", house -> house.brine(2));
        undone("out of brine", house -> house.out(1));
        undone("off its hook", house -> house.out(0));
        undone("hang", house -> house.hang(2, 3, 9));
        undone("turn", house -> house.turn(0));
        undone("turnAll", house -> house.turnAll(0));
        undone("logs", house -> house.logs(1));
        undone("wood", house -> house.wood(2));
        undone("day", SmokeRacks::day);
        undone("hours", house -> house.hours(1));
        undone("sell", house -> house.sell(0));
        undone("throwAway", house -> house.throwAway(2));
        undone("commands", house -> Houses.carryOut(house, "x2;n24;d"));
        SmokeRacks house = ready();
        int before = house.account(10);
        house.append('d');
        house.line(0);
        house.rack(0);
        house.save();
        house.wouldChar(0, 9);
        house.bestHook(0, 0);
        check.raises("a fault", BAD, () -> Houses.carryOut(house, "!"));
        check.raises("a refused text", REFUSED, () -> Houses.carryOut(house, "f0"));
        check.raises("a refused call", REFUSED, () -> house.fish(0));
        check.due("nothing else can be", house.account(10), before);
    }

    /** One fish done on a hook, one in brine, one outside. */
    private static SmokeRacks ready() {
        SmokeRacks house = Houses.smoking(1, 7, 3);
        house.turn(0);
        house.hours(1);
        house.turn(0);
        house.hours(1);
        Houses.carryOut(house, "f2;f3;b1");
        return house;
    }

    private void undone(String what, Change change) {
        SmokeRacks house = ready();
        house.save();
        house.restore();
        String before = View.of(house);
        change.of(house);
        check.due(what + " can be undone", house.account(10), 1);
        check.holds(what + " has changed something", !View.of(house).equals(before));
        check.due(what + " is undone", house.undo(), 0);
        check.due(what + " has changed nothing then", View.of(house), before);
    }

    private void latestEight() {
        SmokeRacks house = new SmokeRacks();
        for (int logs = 1; logs <= 8; logs++) {
            house.logs(1);
            check.due("of " + logs, house.account(10), logs);
        }
        SmokeRacks nine = new SmokeRacks();
        for (int logs = 1; logs <= 9; logs++) {
            nine.logs(1);
        }
        check.due("of 9", nine.account(10), 8);
        for (int left = 7; left >= 0; left--) {
            check.due("of 8", house.undo(), left);
            check.due("of 9", nine.undo(), left);
            check.due("logs of 8", house.account(3), left);
            check.due("logs of 9", nine.account(3), left + 1);
        }
        check.leaves("a ninth of 8", house, NOT_NOW, house::undo);
        check.leaves("a ninth of 9", nine, NOT_NOW, nine::undo);
        house.save();
        house.logs(1);
        house.restore();
        check.due("after restore", house.account(10), 0);
        check.leaves("undo after restore", house, NOT_NOW, house::undo);
        house.logs(2);
        check.due("a change after restore", house.undo(), 0);
        check.due("is undone alone", house.account(3), 0);
    }

    private void whatStays() {
        SmokeRacks house = Houses.with(5);
        house.save();
        house.logs(1);
        Houses.append(house, "f1;?");
        check.raises("a fault", BAD, house::commands);
        check.raises("a refusal", REFUSED, () -> house.brine(1));
        house.line(0);
        Houses.append(house, "w3");
        String kept = View.besidesReason(house).replaceFirst(".* buffer", "buffer");
        check.due("buffer, fault and line", kept, "buffer 2 fault 3 line 5*0/0~0!/0~0");
        house.undo();
        check.due("after undo", View.besidesReason(house).replaceFirst(".* buffer", "buffer"), kept);
        check.due("the reason after undo", View.reason(house), "3 1 0");
        house.throwAway(0);
        house.restore();
        check.due("after restore", View.besidesReason(house).replaceFirst(".* buffer", "buffer"), kept);
        check.due("the reason after restore", View.reason(house), "3 1 0");
        house.commands();
        check.due("the text was whole", house.account(4), 3);
        house.undo();
        check.due("undo of commands does not bring the buffer back", house.account(11), 0);
        check.due("nor the fault", house.faultPosition(), -1);
    }

    private void heldAt() {
        SmokeRacks house = Houses.smoking(1, 11, 0);
        house.hours(1);
        check.due("char of just 9", View.line(house, house.line(0)), "1*0/11~9!/0~0");
        house.logs(2);
        house.hours(1);
        check.due("char above 9", View.line(house, house.line(0)), "1*0/23~9!/0~0");
        house.logs(1);
        house.hours(1);
        house.hours(6);
        check.due("smoke of 40 and above", View.line(house, house.line(0)), "1*0/40~9!/0~0");
        SmokeRacks just = Houses.hanging(0, 1);
        for (int hour = 0; hour < 20; hour++) {
            just.logs(2);
            just.hours(1);
            just.hours(1);
            just.turn(0);
            just.turn(0);
        }
        check.due("smoke of just 40, and 20 above", View.line(just, just.line(0)), "1*0/40~0!/0~0");
    }

    private void burntFish() {
        SmokeRacks house = Houses.smoking(2, 12, 0);
        house.hours(1);
        check.due("burnt", house.burntShare(), 1.0);
        check.due("it hangs on", house.at(0, 0) + house.account(2), 1);
        house.hours(1);
        check.due("it gets smoke", house.sideOf(0, 0, false), 23);
        check.due("it can be turned", house.turn(0), 1);
        check.due("with its rack too", house.turnAll(0), 1);
        house.turn(0);
        house.hours(1);
        check.due("it gets smoke on the other side", house.sideOf(0, 1, false), 10);
        check.due("it can be taken off", house.out(0), 0);
        check.due("and hung again", house.hang(0, 1, 0), 1);
        house.out(0);
        check.due("and laid into brine", house.brine(0), 1);
        check.due("and thrown away", house.throwAway(0), 2);
    }

    private void offItsHook() {
        SmokeRacks house = Houses.smoking(1, 8, 1);
        house.hours(1);
        house.turn(0);
        house.hours(2);
        house.turn(0);
        house.turn(0);
        String line = View.line(house, house.line(0));
        check.due("on its hook", line, "1*0/9~6/15~4!");
        check.due("turned down", house.fishOf(0, 6), 1);
        house.out(0);
        check.due("off its hook", View.line(house, house.line(0)), line);
        check.due("not turned down any more", house.fishOf(0, 6), 0);
        house.brine(0);
        check.due("in brine", View.line(house, house.line(0)), line);
        house.out(0);
        house.hang(0, 0, 0);
        check.due("on a hook again", View.line(house, house.line(0)), line);
        check.due("not turned down", house.fishOf(0, 6), 0);
    }

    private void withoutLogs() {
        SmokeRacks house = Houses.smoking(1, 0, 3);
        house.turn(0);
        check.due("hours", house.hours(1), 0);
        check.due("nothing happens", View.line(house, house.line(0)), "1*0/0~0/0~0!");
        check.due("no logs", house.account(3), 0);
        check.due("they go by", house.account(5), 1);
        check.due("not turned down any more", house.fishOf(0, 6), 0);
        house.hours(24);
        check.due("more of them", house.account(5), 25);
        house.logs(1);
        house.hours(24);
        check.due("when the logs run out on the way", View.line(house, house.line(0)), "1*0/0~0/4~0!");
        check.due("they go by all the same", house.account(5), 49);
        check.due("they can be undone", house.undo(), 7);
    }

    private void ownHook() {
        SmokeRacks house = Houses.with(1, 1, 1, 1, 1, 1, 1, 1, 1, 1, 1);
        for (int hook = 0; hook < 10; hook++) {
            house.hang(hook, 1, hook);
        }
        for (int hook = 0; hook < 10; hook++) {
            check.due("on a full rack", house.bestHook(hook, 1), hook);
        }
        check.leaves("for one outside", house, NONE, () -> house.bestHook(10, 1));
        house.hang(10, 0, 1);
        check.leaves("for one of another rack", house, NONE, () -> house.bestHook(10, 1));
    }

    private void lacking() {
        SmokeRacks house = Houses.smoking(1, 2, 3);
        house.hours(2);
        check.due("3 more than wanted on a side", house.sideOf(0, 0, false), 9);
        check.refused("what the other lacks", house, 10, 6, () -> house.sell(0));
        house.turn(0);
        house.logs(1);
        house.hours(1);
        check.refused("what it lacks still", house, 10, 2, () -> house.sell(0));
    }

    private void unchanged() {
        SmokeRacks house = ready();
        Houses.append(house, "f1;f");
        check.raises("a fault", BAD, house::commands);
        check.raises("a refusal", REFUSED, () -> house.turn(1));
        house.line(0);
        Houses.append(house, "f1");
        check.leaves("fishOf", house, BAD, () -> house.fishOf(0, 9));
        check.leaves("sideOf", house, BAD, () -> house.sideOf(0, 2, true));
        check.leaves("at", house, NONE, () -> house.at(3, 0));
        check.leaves("heat", house, NO_INDEX, () -> house.heat(4));
        check.leaves("nearest", house, NONE, () -> house.nearest(1));
        check.leaves("isCrowded", house, NO_INDEX, () -> house.isCrowded(3));
        check.leaves("isDone", house, NO_INDEX, () -> house.isDone(3));
        check.leaves("wouldChar", house, BAD, () -> house.wouldChar(0, 25));
        check.leaves("wouldCharAgain", house, BAD, () -> house.wouldCharAgain(0, 25));
        check.leaves("burnsIn", house, NONE, () -> house.burnsIn(1));
        check.leaves("doneIn", house, NONE, () -> house.doneIn(1));
        check.leaves("bestHook", house, NO_INDEX, () -> house.bestHook(0, 4));
        check.leaves("ranked", house, NONE, () -> house.ranked(0, 3));
        check.leaves("reason", house, BAD, () -> house.reason(3));
        check.leaves("rack", house, NO_INDEX, () -> house.rack(4));
        check.leaves("line", house, NO_INDEX, () -> house.line(3));
        check.leaves("character", house, NO_INDEX, () -> house.character(14));
        check.leaves("account", house, BAD, () -> house.account(12));
        check.leaves("restore", house, NOT_NOW, house::restore);
        check.refused("sell", house, 10, 14, () -> house.sell(1));
        check.refused("throwAway", house, 3, 3, () -> house.throwAway(3));
        Houses.append(house, "x".repeat(58));
        check.leaves("append", house, NOT_NOW, () -> house.append('d'));
        SmokeRacks empty = new SmokeRacks();
        check.leaves("hottest", empty, NONE, empty::hottest);
        check.leaves("meanSmoke", empty, ArithmeticException.class, empty::meanSmoke);
        check.leaves("burntShare", empty, ArithmeticException.class, empty::burntShare);
        check.leaves("undo", empty, NOT_NOW, empty::undo);
    }

    private void listedFirst() {
        SmokeRacks house = Houses.with(1);
        check.leaves("fishOf: no fish, and no such number", house, NO_INDEX, () -> house.fishOf(1, 9));
        check.leaves("sideOf: no fish, and no such side", house, NO_INDEX, () -> house.sideOf(1, 2, false));
        check.leaves("at: no hook, and none on it", house, NO_INDEX, () -> house.at(0, 10));
        check.leaves("nearest: no fish, and none near", house, NO_INDEX, () -> house.nearest(1));
        check.leaves("wouldChar: no fish, and hours out of range", house, NO_INDEX, () -> house.wouldChar(1, 25));
        check.leaves("wouldCharAgain: the same", house, NO_INDEX, () -> house.wouldCharAgain(1, -1));
        check.leaves("burnsIn: no fish, and never", house, NO_INDEX, () -> house.burnsIn(1));
        check.leaves("doneIn: no fish, and never", house, NO_INDEX, () -> house.doneIn(1));
        check.leaves("ranked: no measure, and no place", house, BAD, () -> house.ranked(5, 1));
        check.leaves("reason: no such number, and no reason", house, BAD, () -> house.reason(3));
        Houses.append(house, "f0;?");
        check.raises("commands: a fault, and one that would be refused", BAD, house::commands);
        check.due("nothing was refused", View.reason(house), "none");
        SmokeRacks full = Houses.hanging(0, 1, 1, 1, 1, 1, 1, 1, 1, 1, 1);
        check.leaves("bestHook: no fish, and none free", full, NO_INDEX, () -> full.bestHook(10, 0));
    }
}
