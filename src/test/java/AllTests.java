/** Runs every test of the project; ends with exit code 1 if an answer is wrong. */
public final class AllTests {
    private AllTests() {
    }

    public static void main(String[] args) {
        System.out.println(Check.made + " checks, " + Check.wrong + " wrong");
        if (Check.wrong != 0) {
            System.exit(1);
        }
    }
}
