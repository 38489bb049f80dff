import java.util.ArrayList;
import java.util.List;

/** Promises 39 to 41: undo, save and restore. */
final class UndoTest {
    private static final Class<IllegalStateException> NOT_NOW = IllegalStateException.class;

    private final Check check;

    UndoTest(Check check) {
        this.check = check;
    }

    void run() {
        undo();
        whatStays();
        eightChanges();
        save();
        restore();
    }

    private void undo() {
        check.promise(39, "undo");
        SmokeRacks house = new SmokeRacks();
        check.raises("of nothing", NOT_NOW, house::undo);
        List<String> views = new ArrayList<>();
        String[] changes = {"f1", "f9", "h1/02", "l12", "w3", "t1", "n1", "a0", "n2", "b0", "d", "o0", "o1", "h0/31", "n9", "s0", "x0"};
        for (String change : changes) {
            views.add(View.withoutHistory(house));
            apply(house, change);
        }
        check.due("changes that can be undone", house.account(10), 8);
        for (int left = 7; left >= 0; left--) {
            check.due("undo", house.undo(), left);
            check.due("account(10)", house.account(10), left);
            check.due("what there was before " + changes[changes.length - 8 + left], View.withoutHistory(house),
                views.get(changes.length - 8 + left));
        }
        check.raises("a ninth time", NOT_NOW, house::undo);
        check.due("the state", View.withoutHistory(house), views.get(changes.length - 8));
    }

    /** By a method of its own, as promise 30 tests the texts. */
    private static void apply(SmokeRacks house, String change) {
        int number = change.length() > 1 ? change.charAt(1) - '0' : 0;
        switch (change.charAt(0)) {
            case 'f': house.fish(number); break;
            case 'b': house.brine(number); break;
            case 'o': house.out(number); break;
            case 'h': house.hang(number, change.charAt(3) - '0', change.charAt(4) - '0'); break;
            case 't': house.turn(number); break;
            case 'a': house.turnAll(number); break;
            case 'l': house.logs(12); break;
            case 'w': house.wood(number); break;
            case 'd': house.day(); break;
            case 'n': house.hours(number); break;
            case 's': sellDone(house); break;
            default: house.throwAway(number);
        }
    }

    /** Sells the first that is done, or the smallest change there is if none is. */
    private static void sellDone(SmokeRacks house) {
        for (int fish = 0; fish < house.account(0); fish++) {
            if (house.isDone(fish)) {
                house.sell(fish);
                return;
            }
        }
        house.turnAll(3);
    }

    private void whatStays() {
        check.promise(39, "what stays at undo");
        SmokeRacks house = Houses.with(2);
        Houses.append(house, "d;q");
        check.raises("a fault", IllegalArgumentException.class, house::commands);
        check.raises("a refusal", UnsupportedOperationException.class, house::day);
        house.line(0);
        house.append('f');
        house.append('7');
        house.undo();
        check.due("the buffer", house.account(11), 2);
        check.due("the fault position", house.faultPosition(), 2);
        check.due("the reason", View.reason(house), "8 0 0");
        check.due("the line", View.line(house, 12), "2*0/0~0!/0~0");
        check.due("the text is whole", house.commands(), 1);
        check.due("the fish of the text", house.fishOf(0, 0), 7);
        SmokeRacks sold = Houses.smoking(1, 12, 3);
        sold.turn(0);
        sold.hours(1);
        sold.turn(0);
        sold.hours(1);
        sold.sell(0);
        sold.fish(3);
        sold.throwAway(0);
        sold.undo();
        check.due("thrown away is undone", sold.account(9), 0);
        sold.undo();
        sold.undo();
        check.due("sold is undone", sold.account(7) + sold.account(8), 0);
        check.due("the fish hangs again", sold.at(0, 0), 0);
        check.due("it is done still", sold.isDone(0), true);
        sold.undo();
        check.due("the hour is undone", sold.account(5), 1);
    }

    private void eightChanges() {
        check.promise(39, "the latest 8");
        SmokeRacks house = new SmokeRacks();
        for (int more = 1; more <= 8; more++) {
            house.logs(1);
            check.due("account(10)", house.account(10), more);
        }
        house.logs(1);
        check.due("no more than 8", house.account(10), 8);
        check.raises("a refused call", UnsupportedOperationException.class, () -> house.logs(9));
        check.due("cannot be undone", house.account(10), 8);
        house.undo();
        house.undo();
        house.logs(3);
        check.due("logs", house.account(3), 10);
        check.due("undo", house.undo(), 6);
        for (int left = 5; left >= 0; left--) {
            check.due("undo", house.undo(), left);
        }
        check.due("the first change is kept no more", house.account(3), 1);
        house.heat(0);
        house.save();
        check.raises("save and questions are no changes", NOT_NOW, house::undo);
    }

    private void save() {
        check.promise(40, "save");
        SmokeRacks house = new SmokeRacks();
        check.due("without fish", house.save(), 0);
        house.fish(2);
        house.fish(3);
        check.due("with two", house.save(), 2);
        check.due("it keeps the changes", house.account(10), 2);
        house.fish(4);
        check.due("in place of the earlier one", house.save(), 3);
        house.throwAway(0);
        check.due("restore", house.restore(), 3);
        check.due("the first is there", house.fishOf(0, 0), 2);
    }

    private void restore() {
        check.promise(41, "restore");
        SmokeRacks house = new SmokeRacks();
        check.raises("without a snapshot", NOT_NOW, house::restore);
        Houses.carryOut(house, "f1;f9;h0/11;h1/02;l9;w2;n1;t0;n1");
        String saved = View.withoutHistory(house);
        house.save();
        Houses.carryOut(house, "w1;n3;x0;o0;b0;d;l1");
        house.append('l');
        house.line(0);
        check.raises("a refusal", UnsupportedOperationException.class, () -> house.fish(10));
        for (int time = 0; time < 2; time++) {
            check.due("restore", house.restore(), 2);
            check.due("what was saved", View.withoutHistory(house), saved);
            check.due("what there was before the changes is forgotten", house.account(10), 0);
            check.raises("no undo", NOT_NOW, house::undo);
            house.throwAway(0);
            house.logs(1);
            check.due("a change after it can be undone", house.undo(), 1);
        }
        check.due("the buffer stays", house.account(11), 1);
        check.due("the reason stays", View.reason(house), "1 0 0");
        check.due("the line stays", house.character(1), '*');
        house.undo();
        check.due("the snapshot outlives undo", house.restore(), 2);
    }
}
