import java.util.concurrent.Callable;

/** Counts the checks, and prints each that does not hold. */
final class Check {
    int passed;
    int failed;
    private String promise = "";

    void promise(int number, String name) {
        promise = "promise " + number + ", " + name;
    }

    void rule(String name) {
        promise = name;
    }

    /** A test that breaks off fails, and lets the others go on. */
    void guarded(Runnable test) {
        try {
            test.run();
        } catch (RuntimeException broken) {
            count(false, "broke off by " + broken + " in " + broken.getStackTrace()[0]);
        }
    }

    void due(String what, Object got, Object want) {
        count(want.equals(got), what + " answered " + got + ", due is " + want);
    }

    void holds(String what, boolean isSo) {
        count(isSo, what + " does not hold");
    }

    void raises(String what, Class<? extends RuntimeException> due, Callable<?> call) {
        due(what, thrownBy(call), due.getSimpleName());
    }

    /** The call is refused for the reason, which is kept with the command 0, and nothing else is changed. */
    void refused(String what, SmokeRacks house, int reason, int detail, Callable<?> call) {
        String before = View.besidesReason(house);
        raises(what, UnsupportedOperationException.class, call);
        due(what + ": the reason", View.reason(house), reason + " " + detail + " 0");
        due(what + ": the state", View.besidesReason(house), before);
    }

    /** The call throws, and nothing at all is changed. */
    void leaves(String what, SmokeRacks house, Class<? extends RuntimeException> due, Callable<?> call) {
        String before = View.whole(house);
        raises(what, due, call);
        due(what + ": the state", View.whole(house), before);
    }

    static String thrownBy(Callable<?> call) {
        try {
            call.call();
            return "nothing";
        } catch (Exception thrown) {
            return thrown.getClass().getSimpleName();
        }
    }

    private void count(boolean isRight, String otherwise) {
        if (isRight) {
            passed++;
        } else {
            failed++;
            System.out.println(promise + ": " + otherwise);
        }
    }
}
