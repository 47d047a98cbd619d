import java.io.IOException;

/** Runs every test of the project; ends with exit code 1 if an answer is wrong. */
public final class AllTests {
    private AllTests() {
    }

    public static void main(String[] args) throws IOException, IllegalAccessException {
        FaceTest.run();
        AppendTest.run();
        LoadTest.run();
        AskTest.run();
        TickTest.run();
        ForesightTest.run();
        ChangeTest.run();
        UndoTest.run();
        TermsTest.run();
        SetupTest.run();
        EdgesTest.run();
        HistoryTest.run();
        RefusedTest.run();
        RandomTest.run();
        ModelTest.run();
        ReadmeTest.run();
        System.out.println(Check.made + " checks, " + Check.wrong + " wrong");
        if (Check.wrong != 0) {
            System.exit(1);
        }
    }
}
