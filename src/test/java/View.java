/** All of a house that can be undone, and how much of it, as one text. */
final class View {
    private View() {
    }

    static String of(SmokeRacks house) {
        return withoutHistory(house) + " undo " + house.account(10);
    }

    static String withoutHistory(SmokeRacks house) {
        StringBuilder text = new StringBuilder();
        for (int what = 0; what < 10; what++) {
            text.append(house.account(what)).append(' ');
        }
        for (int fish = 0; fish < house.account(0); fish++) {
            text.append('|');
            for (int what = 0; what < 9; what++) {
                text.append(house.fishOf(fish, what)).append(' ');
            }
            for (int side = 0; side < 2; side++) {
                text.append(house.sideOf(fish, side, false)).append('~').append(house.sideOf(fish, side, true)).append(' ');
            }
        }
        return text.toString();
    }

    /** The line that was written at last. */
    static String line(SmokeRacks house, int length) {
        StringBuilder text = new StringBuilder();
        for (int index = 0; index < length; index++) {
            text.append(house.character(index));
        }
        return text.toString();
    }
}
