/** Runs every test of the project. */
public final class AllTests {
    private AllTests() {
    }

    public static void main(String[] args) {
        PromiseTests.all();
        sentences(args.length > 1 ? args[1] : "../shared/DOC.md");
        RulesTests.all(args.length > 0 ? args[0] : "src/main/java/SewnFields.java");
        Check.run("random runs", () -> RandomRuns.all(3000));
        Check.close();
    }

    private static void sentences(String document) {
        Sentences sentences = new Sentences(document);
        ClothSentences.all(sentences);
        SewingSentences.all(sentences);
        ErrorSentences.all(sentences);
        PromiseSentences.all(sentences);
        AnswerSentences.all(sentences);
        sentences.close();
    }
}
