/** Runs every test of the project; the argument is the folder of the checkout. */
final class AllTests {
    private AllTests() {
    }

    public static void main(String[] arguments) throws Exception {
        Check check = new Check();
        new ChangesTest(check).run();
        new QuestionsTest(check).run();
        new TextsTest(check).run();
        new LinesTest(check).run();
        new UndoTest(check).run();
        new RunsTest(check).run();
        new FaceTest(check).run();
        new RulesTest(check, arguments[0]).run();
        System.out.println("project: " + check.passed + " passed, " + check.failed + " failed");
        if (check.failed > 0) {
            System.exit(1);
        }
    }
}
