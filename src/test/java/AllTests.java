import java.io.IOException;

/** Runs every test of the project; its arguments are the places of WhistleFlock.java, DOC.md and README.md. */
public final class AllTests {
    private AllTests() {
    }

    public static void main(String[] args) throws IOException {
        FaceTests.run();
        LanguageTests.run(args.length > 0 ? args[0] : "src/main/java/WhistleFlock.java");
        FellTests.run();
        CallTests.run();
        WhitherTests.run();
        WhichTests.run();
        KeepingTests.run();
        sentences(args.length > 1 ? args[1] : "../shared/DOC.md");
        ModelTests.run();
        HardyTests.run();
        ReadmeTests.run(args.length > 2 ? args[2] : "README.md");
        if (!Checks.close()) {
            System.exit(1);
        }
    }

    private static void sentences(String place) throws IOException {
        Document.load(place);
        NumberSentences.run();
        GroundSentences.run();
        TextSentences.run();
        CallSentences.run();
        WhitherSentences.run();
        WhichSentences.run();
        KeptSentences.run();
        for (String stretch : Document.unnamed()) {
            Checks.holds("a test names of the document's part " + stretch, false);
        }
    }
}
