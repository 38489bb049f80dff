import java.util.NoSuchElementException;

/** Promises 29 to 32: commands as texts, and reasons. */
final class TextsTest {
    private static final Class<IllegalArgumentException> BAD = IllegalArgumentException.class;
    private static final Class<UnsupportedOperationException> REFUSED = UnsupportedOperationException.class;

    private final Check check;

    TextsTest(Check check) {
        this.check = check;
    }

    void run() {
        append();
        eachCommand();
        manyCommands();
        refusedCommands();
        faults();
        reason();
    }

    private void append() {
        check.promise(29, "append");
        SmokeRacks house = new SmokeRacks();
        for (int length = 1; length <= 60; length++) {
            check.due("append", house.append('d'), length);
        }
        check.raises("a 61st character", IllegalStateException.class, () -> house.append('d'));
        check.due("account(11)", house.account(11), 60);
        check.raises("the text is carried out", BAD, house::commands);
        check.due("append afterwards", house.append((char) 0xffff), 1);
    }

    private void eachCommand() {
        check.promise(30, "each command");
        asMethod("f7", house -> house.fish(7));
        asMethod("b2", house -> house.brine(2));
        asMethod("b02", house -> house.brine(2));
        asMethod("o0", house -> house.out(0));
        asMethod("o01", house -> house.out(1));
        asMethod("h2/39", house -> house.hang(2, 3, 9));
        asMethod("h02/10", house -> house.hang(2, 1, 0));
        asMethod("t0", house -> house.turn(0));
        asMethod("t00", house -> house.turn(0));
        asMethod("a1", house -> house.turnAll(1));
        asMethod("l7", house -> house.logs(7));
        asMethod("l07", house -> house.logs(7));
        asMethod("w3", house -> house.wood(3));
        asMethod("d", SmokeRacks::day);
        asMethod("n2", house -> house.hours(2));
        asMethod("n24", house -> house.hours(24));
        asMethod("s3", house -> house.sell(3));
        asMethod("x1", house -> house.throwAway(1));
        asMethod("x03", house -> house.throwAway(3));
        refusedAsMethod("f0", house -> house.fish(0));
        refusedAsMethod("b99", house -> house.brine(99));
        refusedAsMethod("o2", house -> house.out(2));
        refusedAsMethod("h2/40", house -> house.hang(2, 4, 0));
        refusedAsMethod("h2/12", house -> house.hang(2, 1, 2));
        refusedAsMethod("t1", house -> house.turn(1));
        refusedAsMethod("a9", house -> house.turnAll(9));
        refusedAsMethod("l12", house -> house.logs(12));
        refusedAsMethod("w1", house -> house.wood(1));
        refusedAsMethod("n25", house -> house.hours(25));
        refusedAsMethod("s10", house -> house.sell(10));
        refusedAsMethod("x4", house -> house.throwAway(4));
    }

    /** A house in which each command of eachCommand() succeeds: 0 hangs, 1 is in brine, 2 outside, 3 done. */
    private static SmokeRacks busy() {
        SmokeRacks house = Houses.with(4, 5, 6, 1);
        house.hang(0, 1, 2);
        house.brine(1);
        house.hang(3, 0, 0);
        house.wood(1);
        house.logs(5);
        house.hours(1);
        house.turn(3);
        house.hours(2);
        house.logs(3);
        return house;
    }

    private interface Call {
        int on(SmokeRacks house);
    }

    private void asMethod(String text, Call call) {
        SmokeRacks byText = busy();
        SmokeRacks byMethod = busy();
        Houses.append(byText, text);
        check.due(text, byText.commands(), 1);
        call.on(byMethod);
        check.due(text + ": the state", View.of(byText), View.of(byMethod));
        check.due(text + ": the buffer", byText.account(11), 0);
        check.due(text + ": the fault", byText.faultPosition(), -1);
        check.holds(text + " changes something", !View.of(byText).equals(View.of(busy())));
    }

    private void refusedAsMethod(String text, Call call) {
        SmokeRacks byText = busy();
        SmokeRacks byMethod = busy();
        Houses.append(byText, text);
        check.raises(text, REFUSED, byText::commands);
        check.raises(text + " as a method", REFUSED, () -> call.on(byMethod));
        check.due(text + ": the reason", View.reason(byText), View.reason(byMethod));
        check.due(text + ": the state", View.of(byText), View.of(busy()));
        check.due(text + ": the buffer", byText.account(11), 0);
        check.due(text + ": the fault", byText.faultPosition(), -1);
    }

    private void manyCommands() {
        check.promise(30, "many commands");
        SmokeRacks house = new SmokeRacks();
        check.due("three", Houses.carryOut(house, "f1;f2;h1/35"), 3);
        check.due("one after the other", house.at(3, 5), 1);
        check.due("one change", house.account(10), 1);
        house.brine(0);
        check.due("thirty", Houses.carryOut(house, "d;d;d;d;d;d;d;d;d;d;d;d;d;d;d;d;d;d;d;d;d;d;d;d;d;d;d;d;d;d"), 30);
        check.due("days so far", house.account(6), 30);
        String sixty = "n24;n24;n24;n24;n24;n24;n24;n24;n24;n24;n24;n24;n24;n24;t01;";
        check.due("sixty characters", sixty.length(), 60);
        check.due("those but the last", Houses.carryOut(house, sixty.substring(0, 55)), 14);
        house.undo();
        house.undo();
        check.due("undone at once", house.account(6), 0);
        house.undo();
        check.due("as is the brine", house.account(1), 0);
        house.undo();
        check.due("as are the fish", house.account(0), 0);
    }

    private void refusedCommands() {
        check.promise(30, "refused commands");
        SmokeRacks house = Houses.with(2);
        house.logs(5);
        String before = View.of(house);
        Houses.append(house, "f3;h0/00;h1/01;n3;x0;w2;l9;h1/01;f3");
        check.raises("the text", REFUSED, house::commands);
        check.due("none is carried out", View.of(house), before);
        check.due("the reason: no fish 1 after 0 is gone", View.reason(house), "3 1 7");
        check.due("no fault", house.faultPosition(), -1);
        check.due("the buffer", house.account(11), 0);
        Houses.append(house, "h0/00;n3;x0;w0");
        check.raises("another text", REFUSED, house::commands);
        check.due("its reason", View.reason(house), "9 0 3");
        check.due("none is carried out either", View.of(house), before);
        check.refused("a call afterwards has the index 0", house, 1, 0, () -> house.fish(0));
        check.due("undo", house.undo(), 1);
    }

    private void faults() {
        check.promise(31, "faultPosition");
        fault("", 0);
        fault(";", 0);
        fault("g1", 0);
        fault("F1", 0);
        fault(" f1", 0);
        fault("" + (char) 0, 0);
        fault("" + (char) 233 + "1", 0);
        fault("1", 0);
        for (char kind : "fbotalwnsxh".toCharArray()) {
            fault("" + kind, 1);
            fault(kind + ";", 1);
            fault(kind + "/", 1);
            fault(kind + ":1", 1);
            fault(kind + "-1", 1);
            fault("d;" + kind + (char) 0x130, 3);
        }
        for (char kind : "faw".toCharArray()) {
            fault(kind + "12", 2);
            fault(kind + "1;", 3);
        }
        for (char kind : "botlnsx".toCharArray()) {
            fault(kind + "123", 3);
            fault(kind + "1x", 2);
            fault(kind + "12;;", 4);
            fault(kind + "12;", 4);
        }
        fault("d1", 1);
        fault("dd", 1);
        fault("d;", 2);
        fault("h1", 2);
        fault("h12", 3);
        fault("h123", 3);
        fault("h1;", 2);
        fault("h1/", 3);
        fault("h1//", 3);
        fault("h1/;", 3);
        fault("h1/2", 4);
        fault("h1/2/", 4);
        fault("h12/3", 5);
        fault("h1/234", 5);
        fault("h12/34,", 6);
        fault("h1/23;h1/2x", 10);
        fault("d;d;d;d;d;d;d;d;d;d;d;d;d;d;d;d;d;d;d;d;d;d;d;d;d;d;d;d;d;d;", 60);
        fault("d;d;d;d;d;d;d;d;d;d;d;d;d;d;d;d;d;d;d;d;d;d;d;d;d;d;d;d;d;dd", 59);
        SmokeRacks house = new SmokeRacks();
        check.due("at first", house.faultPosition(), -1);
        Houses.append(house, "f1;q");
        check.due("before the call", house.faultPosition(), -1);
        check.raises("a fault", BAD, house::commands);
        house.fish(1);
        house.append('d');
        check.due("it stays", house.faultPosition(), 3);
        house.undo();
        check.due("after undo too", house.faultPosition(), 3);
        check.raises("refused without a fault", REFUSED, house::commands);
        check.due("the latest text had none", house.faultPosition(), -1);
    }

    private void fault(String text, int due) {
        SmokeRacks house = Houses.with(1, 2);
        String before = View.of(house);
        Houses.append(house, text);
        check.raises("commands of " + text, BAD, house::commands);
        check.due("fault of " + text, house.faultPosition(), due);
        check.due("buffer after " + text, house.account(11), 0);
        check.due("state after " + text, View.of(house), before);
        check.raises("no reason after " + text, NoSuchElementException.class, () -> house.reason(0));
    }

    private void reason() {
        check.promise(32, "reason");
        SmokeRacks house = new SmokeRacks();
        for (int what = 0; what < 3; what++) {
            int asked = what;
            check.raises("nothing was refused", NoSuchElementException.class, () -> house.reason(asked));
        }
        check.raises("reason(3) at first", BAD, () -> house.reason(3));
        check.raises("reason(-1) at first", BAD, () -> house.reason(-1));
        house.fish(3);
        check.raises("refused", REFUSED, () -> house.sell(0));
        check.due("kept", View.reason(house), "10 16 0");
        check.raises("reason(3)", BAD, () -> house.reason(3));
        check.raises("reason(-1)", BAD, () -> house.reason(-1));
        house.fish(4);
        house.undo();
        house.save();
        house.restore();
        check.raises("another exception", IndexOutOfBoundsException.class, () -> house.heat(7));
        check.due("it stays", View.reason(house), "10 16 0");
        check.raises("refused anew", REFUSED, () -> house.out(0));
        check.due("the latest is kept", View.reason(house), "5 0 0");
    }
}
