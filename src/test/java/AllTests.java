/** Runs every test of the project; the argument is the folder of the checkout. */
final class AllTests {
    private AllTests() {
    }

    public static void main(String[] arguments) throws Exception {
        Check check = new Check();
        check.guarded(new ChangesTest(check)::run);
        check.guarded(new QuestionsTest(check)::run);
        check.guarded(new TextsTest(check)::run);
        check.guarded(new LinesTest(check)::run);
        check.guarded(new UndoTest(check)::run);
        check.guarded(new RunsTest(check)::run);
        check.guarded(new ModelTest(check)::run);
        Document document = new Document(check, arguments[0]);
        new EdgesOfTermsTest(check, document).run();
        new EdgesOfTextsTest(check, document).run();
        new EdgesOfChangesTest(check, document).run();
        new EdgesOfQuestionsTest(check, document).run();
        new EdgesOfLinesTest(check, document).run();
        document.allIsTested();
        check.guarded(new FaceTest(check)::run);
        new RulesTest(check, arguments[0]).run();
        new ReadmeTest(check, arguments[0]).run();
        System.out.println("project: " + check.passed + " passed, " + check.failed + " failed");
        if (check.failed > 0) {
            System.exit(1);
        }
    }
}
