import java.util.ArrayList;
import java.util.List;

/** What an object answers of all that it holds, STATUS apart: two with the same answers hold the same. */
final class Witness {
    private static final int MOST_UNDONE = 8, IMAGES = 2;

    private Witness() {
    }

    /** Behind it the object is used up: all has been undone, the images have been gone on from, the text read. */
    static List<Long> of(WhistleFlock x) {
        List<Long> answers = new ArrayList<>();
        addState(answers, x);
        for (int i = 0; i < IMAGES; i++) {
            long kept = x.from(i);
            answers.add(kept);
            if (kept == 1) {
                addState(answers, x);
            }
        }
        answers.add((long) x.read());
        addState(answers, x);
        return answers;
    }

    private static void addState(List<Long> answers, WhistleFlock x) {
        answers.add(x.digest());
        answers.add((long) x.folded());
        for (int n = 0; n <= MOST_UNDONE; n++) {
            answers.add((long) x.undo());
            answers.add(x.digest());
        }
    }
}
