/** Promises 33 to 38: lines, means and accounts. */
final class LinesTest {
    private static final Class<IndexOutOfBoundsException> NO_INDEX = IndexOutOfBoundsException.class;
    private static final Class<ArithmeticException> NO_DIVISOR = ArithmeticException.class;

    private final Check check;

    LinesTest(Check check) {
        this.check = check;
    }

    void run() {
        rack();
        line();
        character();
        meanSmoke();
        burntShare();
        account();
    }

    private void rack() {
        check.promise(33, "rack");
        SmokeRacks house = Houses.with(1, 1, 1, 1, 1, 1, 1, 1, 1, 1, 1, 1);
        check.due("an empty rack", View.line(house, house.rack(3)), "..........");
        house.hang(0, 1, 0);
        house.hang(11, 1, 9);
        house.hang(1, 1, 3);
        house.hang(2, 0, 5);
        house.logs(12);
        check.due("rack 1", View.line(house, house.rack(1)), "a..b.....l");
        check.due("rack 0", View.line(house, house.rack(0)), ".....c....");
        house.turn(0);
        house.hours(1);
        check.due("burnt ones", View.line(house, house.rack(1)), "a..B.....L");
        check.due("its length", house.rack(0), 10);
        check.raises("rack(4)", NO_INDEX, () -> house.rack(4));
        check.raises("rack(-1)", NO_INDEX, () -> house.rack(-1));
        check.due("the line before stays", View.line(house, 10), ".....C....");
    }

    private void line() {
        check.promise(34, "line");
        SmokeRacks house = Houses.with(5, 9);
        check.due("a fish at first", View.line(house, house.line(0)), "5*0/0~0!/0~0");
        house.brine(0);
        house.day();
        house.day();
        house.out(0);
        house.hang(0, 0, 0);
        house.hang(1, 1, 0);
        house.logs(9);
        house.wood(1);
        house.hours(1);
        check.due("with two digits", View.line(house, house.line(0)), "5*4/10~6!/0~0");
        house.turn(0);
        check.due("the other side down", View.line(house, house.line(0)), "5*4/10~6/0~0!");
        house.turn(1);
        house.hours(1);
        house.logs(4);
        house.hours(2);
        check.due("both sides with two digits", View.line(house, house.line(1)), "9*0/9~6/29~9!");
        check.due("its length", house.line(1), 13);
        SmokeRacks most = Houses.smoking(9, 12, 3);
        most.hours(4);
        most.turn(0);
        most.hours(2);
        check.due("the longest line", View.line(most, most.line(0)), "9*0/40~9/21~5!");
        check.raises("no such fish", NO_INDEX, () -> house.line(2));
        check.raises("no such fish below 0", NO_INDEX, () -> house.line(-1));
    }

    private void character() {
        check.promise(35, "character");
        SmokeRacks house = Houses.with(5);
        check.raises("the line is empty at first", NO_INDEX, () -> house.character(0));
        house.line(0);
        check.due("the first", house.character(0), '5');
        check.due("the last", house.character(11), '0');
        check.raises("behind the last", NO_INDEX, () -> house.character(12));
        check.raises("below 0", NO_INDEX, () -> house.character(-1));
        house.rack(0);
        check.raises("behind the last of a shorter line", NO_INDEX, () -> house.character(10));
        house.undo();
        check.due("the line stays after undo", house.character(9), '.');
    }

    private void meanSmoke() {
        check.promise(36, "meanSmoke");
        check.raises("without fish", NO_DIVISOR, () -> new SmokeRacks().meanSmoke());
        SmokeRacks house = new SmokeRacks();
        for (int fish = 0; fish < 12; fish++) {
            house.fish(1);
            check.due("0", house.meanSmoke(), 0);
        }
        house.hang(0, 0, 0);
        house.logs(1);
        house.hours(1);
        check.due("1 by 24", house.meanSmoke(), Float.floatToIntBits(1f / 24f));
        house.logs(12);
        house.wood(3);
        for (int fish = 1; fish < 10; fish++) {
            house.hang(fish, fish % 4, fish);
        }
        for (int hour = 0; hour < 30; hour++) {
            house.turnAll(hour % 3);
            house.hours(1);
            if (hour % 9 == 0) {
                house.logs(house.account(3) == 0 ? 12 : 1);
            }
            if (hour % 7 == 0) {
                house.throwAway(house.account(0) - 1);
            }
            check.due("hour " + hour, house.meanSmoke(), meanBits(house));
        }
        SmokeRacks full = Houses.smoking(1, 12, 3);
        full.hours(4);
        full.turn(0);
        full.hours(8);
        full.logs(12);
        full.hours(2);
        check.due("40", full.meanSmoke(), Float.floatToIntBits(40f));
    }

    private static int meanBits(SmokeRacks house) {
        int sum = 0;
        for (int fish = 0; fish < house.account(0); fish++) {
            sum += house.sideOf(fish, 0, false) + house.sideOf(fish, 1, false);
        }
        return Float.floatToIntBits((float) sum / (float) (2 * house.account(0)));
    }

    private void burntShare() {
        check.promise(37, "burntShare");
        check.raises("without fish", NO_DIVISOR, () -> new SmokeRacks().burntShare());
        SmokeRacks house = Houses.hanging(0, 1, 1);
        house.fish(1);
        check.due("none", house.burntShare(), 0.0);
        house.logs(12);
        house.turn(0);
        house.hours(1);
        check.due("1 of 3", house.burntShare(), 1.0 / 3.0);
        house.hours(1);
        check.due("2 of 3", house.burntShare(), 2.0 / 3.0);
        house.throwAway(2);
        house.out(0);
        check.due("all, though one is outside", house.burntShare(), 1.0);
    }

    private void account() {
        check.promise(38, "account");
        SmokeRacks house = Houses.with(1, 2, 3, 4);
        house.brine(0);
        house.hang(1, 3, 0);
        house.hang(2, 0, 0);
        check.due("fish, in brine, hanging", told(house, 0, 1, 2), "4 1 2 ");
        house.logs(9);
        house.wood(2);
        house.day();
        house.day();
        house.turn(1);
        house.hours(1);
        house.hours(3);
        house.turn(2);
        house.hours(1);
        check.due("logs, wood, hours, days", told(house, 3, 4, 5, 6), "4 2 5 2 ");
        house.append('d');
        house.append(';');
        check.due("changes, characters", told(house, 10, 11), "8 2 ");
        house.logs(5);
        house.turn(1);
        house.hours(1);
        check.due("sold for", house.sell(1), 6);
        check.due("thrown away", house.throwAway(0), 1);
        check.due("thrown away too", house.throwAway(0), 3);
        check.due("sold, earned, thrown", told(house, 7, 8, 9), "1 6 2 ");
        check.due("fish, in brine, hanging afterwards", told(house, 0, 1, 2), "1 0 0 ");
        check.raises("account(12)", IllegalArgumentException.class, () -> house.account(12));
        check.raises("account(-1)", IllegalArgumentException.class, () -> house.account(-1));
    }

    private static String told(SmokeRacks house, int... whats) {
        StringBuilder text = new StringBuilder();
        for (int what : whats) {
            text.append(house.account(what)).append(' ');
        }
        return text.toString();
    }
}
