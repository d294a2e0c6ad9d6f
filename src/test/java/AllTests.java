/** Runs all tests of the project; ends with exit code 1 if one fails. */
public final class AllTests {
    private AllTests() {
    }

    public static void main(String[] args) {
        ChangesTest.run();
        MinuteTest.run();
        CustomersTest.run();
        QueueTest.run();
        PredictionsTest.run();
        StatisticsTest.run();
        OutputTest.run();
        ScriptTest.run();
        UndoTest.run();
        FaceTest.run();
        LanguageTest.run();
        ReadmeTest.run();
        TermsEdgesTest.run();
        ChangesEdgesTest.run();
        AnswersEdgesTest.run();
        StatisticsEdgesTest.run();
        ScriptEdgesTest.run();
        UndoEdgesTest.run();
        SentencesTest.run();
        FormsTest.run();
        ScenesTest.run();
        ReferenceTest.run();
        System.exit(Check.finish());
    }
}
