/** Runs every test of the project. */
public final class AllTests {
    private static final long LONGEST = 600_000;

    private AllTests() {
    }

    public static void main(String[] args) {
        watch();
        String source = args.length > 0 ? args[0] : "src/main/java/SewnFields.java";
        String document = args.length > 1 ? args[1] : "../shared/DOC.md";
        PromiseTests.all();
        sentences(document);
        RulesTests.all(source, document);
        ReadmeTests.all("README.md");
        Check.run("random runs", () -> RandomRuns.all(3000));
        Check.close();
    }

    /** Lets the tests fail if a call does not end. */
    private static void watch() {
        Thread watch = new Thread(() -> {
            try {
                Thread.sleep(LONGEST);
            } catch (InterruptedException e) {
                return;
            }
            System.out.println("FAILED: the tests did not end in " + LONGEST + " ms");
            Runtime.getRuntime().halt(1);
        });
        watch.setDaemon(true);
        watch.start();
    }

    private static void sentences(String document) {
        Sentences sentences = new Sentences(document);
        ClothSentences.all(sentences);
        SewingSentences.all(sentences);
        ErrorSentences.all(sentences);
        PromiseSentences.all(sentences);
        AnswerSentences.all(sentences);
        sentences.close();
    }
}
