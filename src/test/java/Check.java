import java.util.concurrent.Callable;

/** Counts the checks, and prints each that does not hold. */
final class Check {
    int passed;
    int failed;
    private String promise = "";

    void promise(int number, String name) {
        promise = "promise " + number + ", " + name;
    }

    void rule(String name) {
        promise = name;
    }

    void due(String what, Object got, Object want) {
        count(want.equals(got), what + " answered " + got + ", due is " + want);
    }

    void holds(String what, boolean isSo) {
        count(isSo, what + " does not hold");
    }

    void raises(String what, Class<? extends RuntimeException> due, Callable<?> call) {
        due(what, thrownBy(call), due.getSimpleName());
    }

    /** The call is refused for the reason, which is kept with the command 0, and nothing else is changed. */
    void refused(String what, SmokeRacks house, int reason, int detail, Callable<?> call) {
        String before = View.of(house);
        raises(what, UnsupportedOperationException.class, call);
        due(what + ": the reason", reasonOf(house), reason + " " + detail + " 0");
        due(what + ": the state", View.of(house), before);
    }

    static String reasonOf(SmokeRacks house) {
        return house.reason(0) + " " + house.reason(1) + " " + house.reason(2);
    }

    static String thrownBy(Callable<?> call) {
        try {
            call.call();
            return "nothing";
        } catch (Exception thrown) {
            return thrown.getClass().getSimpleName();
        }
    }

    private void count(boolean isRight, String otherwise) {
        if (isRight) {
            passed++;
        } else {
            failed++;
            System.out.println(promise + ": " + otherwise);
        }
    }
}
