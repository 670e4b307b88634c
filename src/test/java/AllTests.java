/** Runs every test of the project; the last line tells how many passed and how many failed. */
public final class AllTests {
    private AllTests() {
    }

    public static void main(String[] arguments) throws Exception {
        Check check = new Check();
        FaceTests.run(check);
        LanguageTests.run(check);
        PromiseTests.run(check);
        Edges.run(check);
        AgainstPlain.run(check);
        WildTests.run(check);
        ReadmeTests.run(check);
        System.out.println(check.passed + " passed, " + check.failed + " failed");
        if (check.failed != 0) {
            System.exit(1);
        }
    }
}
