import java.io.IOException;

/** Runs every test of the project; its one argument is the place of WhistleFlock.java. */
public final class AllTests {
    private AllTests() {
    }

    public static void main(String[] args) throws IOException {
        FaceTests.run();
        LanguageTests.run(args.length > 0 ? args[0] : "src/main/java/WhistleFlock.java");
        FellTests.run();
        CallTests.run();
        WhitherTests.run();
        WhichTests.run();
        KeepingTests.run();
        ModelTests.run();
        if (!Checks.close()) {
            System.exit(1);
        }
    }
}
