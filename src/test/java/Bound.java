import java.util.Arrays;
import java.util.stream.IntStream;

/** A number that a call takes: the least and the most that it may be, and the words of the document that tell it. */
final class Bound {
    /** What count() tells of: a number of one who is there is below it. */
    private static final int OF_SHEEP = 0, OF_WHISTLES = 1, OF_NONE = -1;

    private final int part;
    private final String words;
    private final int least;
    private final int most;
    private final int those;

    private Bound(int part, String words, int least, int most, int those) {
        this.part = part;
        this.words = words;
        this.least = least;
        this.most = most;
        this.those = those;
    }

    /** By words under the promise's own head. */
    static Bound of(int promise, String words, int least, int most) {
        return new Bound(promise, words, least, most, OF_NONE);
    }

    /** By words under 'Terms'. */
    static Bound ofTerms(String words, int least, int most) {
        return new Bound(Document.TERMS, words, least, most, OF_NONE);
    }

    static Bound whistle() {
        return new Bound(Document.TERMS, "WHISTLES 0 .. 2, as they come", 0, 0, OF_WHISTLES);
    }

    static Bound sheep() {
        return new Bound(Document.TERMS, "SHEEP 0 .. 6, as they come", 0, 0, OF_SHEEP);
    }

    Sentence sentence(int promise) {
        return Sentence.ofPart(promise, part, words);
    }

    int least() {
        return least;
    }

    private int most(WhistleFlock x) {
        return those == OF_NONE ? most : x.count(those) - 1;
    }

    private boolean isTold(int n, WhistleFlock x) {
        return n >= least && n <= most(x);
    }

    /** The least and the most, if there are such. */
    int[] inside(WhistleFlock x) {
        return IntStream.of(least, most(x)).filter(n -> isTold(n, x)).distinct().toArray();
    }

    /** Those next to the bounds, and those farthest off. */
    int[] outside(WhistleFlock x) {
        int[] all = {least - 1, most(x) + 1, Integer.MIN_VALUE, Integer.MAX_VALUE};
        return Arrays.stream(all).filter(n -> !isTold(n, x)).distinct().toArray();
    }
}
