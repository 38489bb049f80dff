import java.util.NoSuchElementException;

/** All of a house that can be undone, and how much of it, as one text. */
final class View {
    private View() {
    }

    static String of(SmokeRacks house) {
        return withoutHistory(house) + " undo " + house.account(10);
    }

    static String withoutHistory(SmokeRacks house) {
        StringBuilder text = new StringBuilder();
        for (int what = 0; what < 10; what++) {
            text.append(house.account(what)).append(' ');
        }
        for (int fish = 0; fish < house.account(0); fish++) {
            text.append('|');
            for (int what = 0; what < 9; what++) {
                text.append(house.fishOf(fish, what)).append(' ');
            }
            for (int side = 0; side < 2; side++) {
                text.append(house.sideOf(fish, side, false)).append('~').append(house.sideOf(fish, side, true)).append(' ');
            }
        }
        return text.toString();
    }

    /** All that can be asked of a house, with what undo leaves alone: the buffer, the fault, the reason and the line. */
    static String whole(SmokeRacks house) {
        return besidesReason(house) + " reason " + reason(house);
    }

    static String besidesReason(SmokeRacks house) {
        return of(house) + " buffer " + house.account(11) + " fault " + house.faultPosition() + " line " + line(house);
    }

    static String reason(SmokeRacks house) {
        try {
            return house.reason(0) + " " + house.reason(1) + " " + house.reason(2);
        } catch (NoSuchElementException none) {
            return "none";
        }
    }

    /** The line that was written at last, to its end. */
    static String line(SmokeRacks house) {
        StringBuilder text = new StringBuilder();
        try {
            for (int index = 0; index < 100; index++) {
                text.append(house.character(index));
            }
            return text + " without an end";
        } catch (IndexOutOfBoundsException end) {
            return text.toString();
        }
    }

    /** The line that was written at last, of this length. */
    static String line(SmokeRacks house, int length) {
        StringBuilder text = new StringBuilder();
        for (int index = 0; index < length; index++) {
            text.append(house.character(index));
        }
        return text.toString();
    }
}
