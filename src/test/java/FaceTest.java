import java.lang.reflect.Constructor;
import java.lang.reflect.Member;
import java.lang.reflect.Method;
import java.lang.reflect.Modifier;
import java.util.ArrayList;
import java.util.Arrays;
import java.util.Collections;
import java.util.List;

/** The class has the document's face, and nothing beside it. */
final class FaceTest {
    private static final String WHOLE =
        "boolean isCrowded(int) throws IndexOutOfBoundsException\n"
        + "boolean isDone(int) throws IndexOutOfBoundsException\n"
        + "char character(int) throws IndexOutOfBoundsException\n"
        + "double burntShare() throws ArithmeticException\n"
        + "int account(int) throws IllegalArgumentException\n"
        + "int append(char) throws IllegalStateException\n"
        + "int at(int,int) throws IndexOutOfBoundsException,NoSuchElementException\n"
        + "int bestHook(int,int) throws IndexOutOfBoundsException,NoSuchElementException\n"
        + "int brine(int) throws UnsupportedOperationException\n"
        + "int burnsIn(int) throws IndexOutOfBoundsException,NoSuchElementException\n"
        + "int commands() throws IllegalArgumentException,UnsupportedOperationException\n"
        + "int crowded()\n"
        + "int day() throws UnsupportedOperationException\n"
        + "int doneIn(int) throws IndexOutOfBoundsException,NoSuchElementException\n"
        + "int faultPosition()\n"
        + "int fish(int) throws UnsupportedOperationException\n"
        + "int fishOf(int,int) throws IndexOutOfBoundsException,IllegalArgumentException\n"
        + "int hang(int,int,int) throws UnsupportedOperationException\n"
        + "int heat(int) throws IndexOutOfBoundsException\n"
        + "int hottest() throws NoSuchElementException\n"
        + "int hours(int) throws UnsupportedOperationException\n"
        + "int line(int) throws IndexOutOfBoundsException\n"
        + "int logs(int) throws UnsupportedOperationException\n"
        + "int meanSmoke() throws ArithmeticException\n"
        + "int nearest(int) throws IndexOutOfBoundsException,NoSuchElementException\n"
        + "int out(int) throws UnsupportedOperationException\n"
        + "int rack(int) throws IndexOutOfBoundsException\n"
        + "int ranked(int,int) throws IllegalArgumentException,NoSuchElementException\n"
        + "int reason(int) throws IllegalArgumentException,NoSuchElementException\n"
        + "int restore() throws IllegalStateException\n"
        + "int save()\n"
        + "int sell(int) throws UnsupportedOperationException\n"
        + "int sideOf(int,int,boolean) throws IndexOutOfBoundsException,IllegalArgumentException\n"
        + "int throwAway(int) throws UnsupportedOperationException\n"
        + "int turn(int) throws UnsupportedOperationException\n"
        + "int turnAll(int) throws UnsupportedOperationException\n"
        + "int undo() throws IllegalStateException\n"
        + "int wood(int) throws UnsupportedOperationException\n"
        + "int wouldChar(int,int) throws IndexOutOfBoundsException,IllegalArgumentException\n"
        + "int wouldCharAgain(int,int) throws IndexOutOfBoundsException,IllegalArgumentException";

    private final Check check;

    FaceTest(Check check) {
        this.check = check;
    }

    void run() {
        check.rule("face");
        int open = Modifier.PUBLIC | Modifier.FINAL;
        check.due("the class", SmokeRacks.class.getModifiers() & open, open);
        List<String> face = new ArrayList<>();
        List<String> names = new ArrayList<>();
        for (Method method : SmokeRacks.class.getDeclaredMethods()) {
            if (Modifier.isPublic(method.getModifiers())) {
                face.add(told(method));
                names.add(method.getName());
            }
        }
        Collections.sort(face);
        check.due("the methods", String.join("\n", face), WHOLE);
        hidden(names);
    }

    private void hidden(List<String> names) {
        List<Member> members = new ArrayList<>(Arrays.asList(SmokeRacks.class.getDeclaredMethods()));
        members.addAll(Arrays.asList(SmokeRacks.class.getDeclaredFields()));
        for (Member member : members) {
            if (!Modifier.isPublic(member.getModifiers()) && !member.isSynthetic()) {
                check.holds(member.getName() + " is private", Modifier.isPrivate(member.getModifiers()));
            }
        }
        for (Class<?> part : SmokeRacks.class.getDeclaredClasses()) {
            check.holds(part.getName() + " is static and not public", Modifier.isStatic(part.getModifiers())
                && !Modifier.isPublic(part.getModifiers()));
            for (Method method : part.getDeclaredMethods()) {
                check.holds(method.getName() + " is no name of the face", !names.contains(method.getName()));
            }
        }
        Constructor<?>[] makers = SmokeRacks.class.getDeclaredConstructors();
        check.due("constructors", makers.length, 1);
        check.holds("the constructor is public and without arguments", Modifier.isPublic(makers[0].getModifiers())
            && makers[0].getParameterCount() == 0);
    }

    private static String told(Method method) {
        String thrown = simple(method.getExceptionTypes());
        return method.getReturnType().getSimpleName() + " " + method.getName() + "(" + simple(method.getParameterTypes()) + ")"
            + (thrown.isEmpty() ? "" : " throws " + thrown);
    }

    private static String simple(Class<?>[] types) {
        List<String> names = new ArrayList<>();
        for (Class<?> type : types) {
            names.add(type.getSimpleName());
        }
        return String.join(",", names);
    }
}
