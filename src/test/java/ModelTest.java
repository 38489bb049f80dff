import java.lang.reflect.InvocationTargetException;
import java.lang.reflect.Method;
import java.lang.reflect.Modifier;
import java.util.ArrayList;
import java.util.Arrays;
import java.util.Comparator;
import java.util.List;
import java.util.Map;

/** Long runs of calls, the same each time: the program answers each as the second telling of the document does. */
final class ModelTest {
    private static final int RUNS = 400;
    private static final int CALLS = 512;
    private static final String SIGNS = "fbohtalwdnsx;/0123456789";
    /** Often what fills the house, and seldom what empties it. */
    private static final String[] CHANGES = ("fish fish fish fish brine brine day day out hang hang hang hang hang hang "
        + "turn turn turnAll turnAll turnAll turnAll logs logs wood hours hours hours hours sell sell throwAway").split(" ");
    private static final List<String> SELDOM = List.of("append", "commands", "undo", "save", "restore");
    /** What the arguments of a method are: f for a fish, l for logs, and else how many there can be, from 0. */
    private static final Map<String, String> ARGUMENTS = Map.ofEntries(
        Map.entry("fish", "10"), Map.entry("brine", "f"), Map.entry("out", "f"), Map.entry("hang", "f 2 10"),
        Map.entry("turn", "f"), Map.entry("turnAll", "4"), Map.entry("logs", "l"), Map.entry("wood", "4"),
        Map.entry("hours", "4"), Map.entry("sell", "f"), Map.entry("throwAway", "f"), Map.entry("fishOf", "f 9"),
        Map.entry("sideOf", "f 2 2"), Map.entry("at", "4 10"), Map.entry("heat", "4"), Map.entry("nearest", "f"),
        Map.entry("isCrowded", "f"), Map.entry("isDone", "f"), Map.entry("wouldChar", "f 25"),
        Map.entry("wouldCharAgain", "f 25"), Map.entry("burnsIn", "f"), Map.entry("doneIn", "f"),
        Map.entry("bestHook", "f 4"), Map.entry("ranked", "5 f"), Map.entry("append", "128"), Map.entry("reason", "3"),
        Map.entry("rack", "4"), Map.entry("line", "f"), Map.entry("character", "15"), Map.entry("account", "12"));

    private final Check check;
    private final List<Method> face = new ArrayList<>();
    private final List<Method> questions;
    private SmokeRacks house;
    private Model model;
    private long seed = 20261120;

    ModelTest(Check check) {
        this.check = check;
        for (Method method : SmokeRacks.class.getDeclaredMethods()) {
            if (Modifier.isPublic(method.getModifiers())) {
                face.add(method);
            }
        }
        face.sort(Comparator.comparing(Method::getName));
        questions = new ArrayList<>(face);
        questions.removeIf(method -> SELDOM.contains(method.getName())
            || List.of(CHANGES).contains(method.getName()));
    }

    void run() {
        for (int run = 0; run < RUNS; run++) {
            check.rule("run " + run + " beside the model");
            oneRun(run % 4);
        }
    }

    private int below(int bound) {
        seed = seed * 6364136223846793005L + 1442695040888963407L;
        return (int) ((seed >>> 33) % bound);
    }

    private void oneRun(int wildness) {
        house = new SmokeRacks();
        model = new Model();
        for (int call = 0; call < CALLS; call++) {
            int choice = below(100);
            if (choice < 40) {
                callWith(named(CHANGES[below(CHANGES.length)]), wildness);
            } else if (choice < 42) {
                call += giveText(wildness);
            } else if (choice < 44) {
                callWith(named(SELDOM.get(below(SELDOM.size()))), wildness);
            } else {
                callWith(questions.get(below(questions.size())), wildness);
            }
        }
    }

    private Method named(String name) {
        return face.stream().filter(method -> method.getName().equals(name)).findFirst().orElseThrow();
    }

    private void callWith(Method method, int wildness) {
        String kinds = ARGUMENTS.getOrDefault(method.getName(), "");
        Class<?>[] types = method.getParameterTypes();
        Object[] arguments = new Object[types.length];
        for (int i = 0; i < types.length; i++) {
            int number = number(kinds.split(" ")[i], wildness);
            arguments[i] = types[i] == int.class ? (Object) number
                : types[i] == char.class ? (Object) (char) number : (Object) (number > 0);
        }
        compare(method, arguments);
    }

    private int number(String kind, int wildness) {
        // few logs do not burn a fish ahead of its being done
        int bound = kind.equals("f") ? model.account(0) : kind.equals("l") ? 3 + wildness % 2 * 6 : Integer.parseInt(kind);
        if (below(40) < wildness) {
            int[] odd = {-1, bound, bound + 1, 12, 13, 24, 25, 60, 99, Integer.MIN_VALUE, Integer.MAX_VALUE};
            return odd[below(odd.length)];
        }
        return below(Math.max(1, bound));
    }

    /** Gives a text and has it carried out; answers how many calls that takes. */
    private int giveText(int wildness) {
        StringBuilder text = new StringBuilder();
        int many = 1 + below(4);
        for (int command = 0; command < many; command++) {
            text.append(command == 0 ? "" : ";").append(commandText(wildness));
        }
        if (below(40) < wildness) {
            int place = below(text.length());
            text.replace(place, place + below(2), "" + SIGNS.charAt(below(SIGNS.length())));
        }
        if (below(60) < wildness) {
            text.setLength(below(text.length()));
        }
        for (int i = 0; i < text.length(); i++) {
            compare(named("append"), text.charAt(i));
        }
        compare(named("commands"));
        compare(named("faultPosition"));
        return text.length() + 2;
    }

    private String commandText(int wildness) {
        char kind = SIGNS.charAt(below(12));
        String fish = (below(4) == 0 ? "0" : "") + Math.floorMod(number("f", wildness), 100);
        fish = fish.substring(Math.max(0, fish.length() - 2));
        switch (kind) {
            case 'd':
                return "d";
            case 'f':
                return "f" + Math.floorMod(number("10", wildness), 10);
            case 'w': case 'a':
                return kind + "" + Math.floorMod(number("4", wildness), 10);
            case 'l': case 'n':
                return kind + "" + Math.floorMod(number("5", wildness), 100);
            case 'h':
                return "h" + fish + "/" + Math.floorMod(number("4", wildness), 10) + below(10);
            default:
                return kind + fish;
        }
    }

    private void compare(Method method, Object... arguments) {
        String call = method.getName() + Arrays.toString(arguments);
        try {
            Method told = Model.class.getMethod(method.getName(), method.getParameterTypes());
            check.due(call, answer(house, method, arguments), answer(model, told, arguments));
        } catch (ReflectiveOperationException broken) {
            check.holds(call + ", which broke off by " + broken, false);
        }
    }

    private static Object answer(Object asked, Method method, Object[] arguments) throws ReflectiveOperationException {
        try {
            return method.invoke(asked, arguments);
        } catch (InvocationTargetException thrown) {
            return thrown.getCause().getClass().getSimpleName();
        }
    }
}
