/** Runs every test of the project. */
public final class AllTests {
    private AllTests() {
    }

    public static void main(String[] args) {
        PromiseTests.all();
        RulesTests.all(args.length > 0 ? args[0] : "src/main/java/SewnFields.java");
        Check.run("random runs", () -> RandomRuns.all(3000));
        Check.close();
    }
}
