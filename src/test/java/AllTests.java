/** Runs every test of the project. */
public final class AllTests {
    private AllTests() {
    }

    public static void main(String[] args) {
        Check.run("random runs", () -> RandomRuns.all(3000));
        Check.close();
    }
}
