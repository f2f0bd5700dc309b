import java.util.function.Supplier;
import java.util.function.ToLongFunction;

/** Words of the document that name a bound, and the checks that fail if the class breaks them. */
final class Sentence {
    /** What a call counts as: a place of STATUS, or none. */
    static final int AS_BAD = 0, AS_NO = 1, AS_FULL = 2, AS_NONE = 3;
    private static final int PLACES = 3;

    private final int promise;
    private final String words;

    private Sentence(int promise, int part, String words) {
        this.promise = promise;
        this.words = words;
        Checks.holds("part " + part + " of the document says: " + words, Document.names(part, words));
    }

    /** Words that stand under the promise's own head. */
    static Sentence of(int promise, String words) {
        return new Sentence(promise, promise, words);
    }

    /** Words that stand under 'Terms', by a promise that keeps to them. */
    static Sentence ofTerms(int promise, String words) {
        return new Sentence(promise, Document.TERMS, words);
    }

    /** Words that stand in another part, by a promise that keeps to them. */
    static Sentence ofPart(int promise, int part, String words) {
        return new Sentence(promise, part, words);
    }

    void due(String what, long got, long want) {
        Checks.due(promise, "'" + words + "': " + what, got, want);
    }

    /** The answer is due, nothing but STATUS has changed, and STATUS is one more where the call counts. */
    void refused(Supplier<WhistleFlock> scene, String what, ToLongFunction<WhistleFlock> call, long answer, int as) {
        WhistleFlock x = scene.get();
        long[] before = status(x);
        due(what, call.applyAsLong(x), answer);
        long[] behind = status(x);
        for (int place = 0; place < PLACES; place++) {
            due("status(" + place + ") behind " + what, behind[place], before[place] + (place == as ? 1 : 0));
        }
        boolean isAlike = Witness.of(x).equals(Witness.of(scene.get()));
        due("nothing else is changed by " + what, isAlike ? 1 : 0, 1);
    }

    /** The answer is due, nothing has changed, and the call counts as nothing in STATUS. */
    void onlyTold(Supplier<WhistleFlock> scene, String what, ToLongFunction<WhistleFlock> call, long answer) {
        refused(scene, what, call, answer, AS_NONE);
    }

    /** The answer is due, and the call counts as nothing in STATUS. */
    void done(WhistleFlock x, String what, ToLongFunction<WhistleFlock> call, long answer) {
        long[] before = status(x);
        due(what, call.applyAsLong(x), answer);
        long[] behind = status(x);
        for (int place = 0; place < PLACES; place++) {
            due("status(" + place + ") behind " + what, behind[place], before[place]);
        }
    }

    static long[] status(WhistleFlock x) {
        return new long[] {x.status(0), x.status(1), x.status(2)};
    }
}
