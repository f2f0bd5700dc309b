import java.util.ArrayList;
import java.util.Arrays;
import java.util.List;
import java.util.function.Supplier;

/** 'BAD -2 a number is not as told': each number of each call, just inside of its bounds and just outside. */
final class NumberSentences {
    private interface Way {
        long ask(WhistleFlock x, int[] n);
    }

    /** A call, what it answers if a number is not as told, and its numbers. */
    private static final class Asking {
        final int promise;
        final String name;
        final long refusal;
        final Way way;
        final Bound[] bounds;

        Asking(int promise, String name, long refusal, Way way, Bound... bounds) {
            this.promise = promise;
            this.name = name;
            this.refusal = refusal;
            this.way = way;
            this.bounds = bounds;
        }

        int[] leastOfAll() {
            return Arrays.stream(bounds).mapToInt(Bound::least).toArray();
        }

        boolean mayBeTold(WhistleFlock x) {
            return Arrays.stream(bounds).allMatch(bound -> bound.inside(x).length > 0);
        }
    }

    private static final Bound CELL = Bound.ofTerms("24: 5 times the ROW (0 .. 4) and the COLUMN (0 .. 4)", 0, 24);
    private static final Bound CALL = Bound.ofTerms(
        "CALLS: 0 up (a ROW less), 1 on (a COLUMN more), 2 down (a ROW more), 3 back (a COLUMN less), 4 lie.", 0, 4);
    private static final Bound WHISTLE = Bound.whistle();
    private static final Bound SHEEP = Bound.sheep();
    private static final Bound WHISTLE_KIND = Bound.ofTerms("KINDS of WHISTLES, each under the one told", 0, 5);
    private static final Bound SHEEP_KIND = Bound.ofTerms("KINDS of SHEEP, each under the one told", 0, 5);
    private static final Bound TWO_CALLS = Bound.ofTerms("two CALLS d, e (0 .. 4) to a WHISTLE", 0, 4);
    private static final Bound IMAGE = Bound.ofTerms("IMAGES 0, 1 keep", 0, 1);

    private final List<Asking> askings = new ArrayList<>();

    private NumberSentences() {
    }

    static void run() {
        NumberSentences all = new NumberSentences();
        all.addGround();
        all.addCalls();
        all.addWhither();
        all.addSeen();
        all.addKinds();
        all.addOdds();
        all.addKept();
        for (Asking one : all.askings) {
            Sentence.of(one.promise, one.refusal == -10 ? "BAD: -10:" : one.refusal == -1 ? "(counts as BAD)" : "BAD");
            for (Supplier<WhistleFlock> scene : Scenes.all()) {
                inside(one, scene);
                outside(one, scene);
                allOutside(one, scene);
            }
        }
    }

    private void add(int promise, String name, Way way, Bound... bounds) {
        askings.add(new Asking(promise, name, WhistleFlock.BAD, way, bounds));
    }

    private void addOther(int promise, String name, long refusal, Way way, Bound... bounds) {
        askings.add(new Asking(promise, name, refusal, way, bounds));
    }

    private void addGround() {
        add(2, "fell", (x, n) -> x.fell(n[0]), CELL);
        add(3, "whistle", (x, n) -> x.whistle(n[0], n[1]), WHISTLE_KIND, CELL);
        add(4, "sheep", (x, n) -> x.sheep(n[0], n[1]), SHEEP_KIND, CELL);
        add(5, "fold", (x, n) -> x.fold(n[0]), CELL);
        add(6, "type", (x, n) -> x.type(n[0]), Bound.of(6, "A byte (0 .. 127)", 0, 127));
    }

    private void addCalls() {
        add(9, "calls", (x, n) -> x.calls(n[0], n[1]), WHISTLE, CALL);
        add(10, "steps", (x, n) -> x.steps(n[0]), Bound.of(10, "n STEPS go by without one (1 .. 99;", 1, 99));
        add(12, "of", (x, n) -> x.of(n[0], n[1]), WHISTLE,
            Bound.of(12, "KIND (0), CELL (1), how many CELLS it goes by a CALL now (2).", 0, 2));
        add(13, "about", (x, n) -> x.about(n[0], n[1]), SHEEP,
            Bound.of(13, "KIND (0), CELL (1), how FAR from THE FOLD (2).", 0, 2));
    }

    private void addWhither() {
        add(14, "goes", (x, n) -> x.goes(n[0], n[1]), WHISTLE, CALL);
        add(15, "gives", (x, n) -> x.gives(n[0], n[1], n[2]), SHEEP, WHISTLE, CALL);
        addOther(17, "drive", -10, (x, n) -> x.drive(n[0], n[1], n[2], n[3]), SHEEP, WHISTLE, CELL,
            Bound.of(17, "k = -1, k below -2, too", 0, Integer.MAX_VALUE));
        add(18, "near", (x, n) -> x.near(n[0], n[1]), WHISTLE,
            Bound.of(18, "the CALL (0), how FAR they are then (1).", 0, 1));
        add(19, "gather", (x, n) -> x.gather(n[0], n[1]), WHISTLE,
            Bound.of(19, "how many (0), the three (1).", 0, 1));
    }

    private void addSeen() {
        add(20, "seen", (x, n) -> x.seen(n[0], n[1]), SHEEP, CELL);
        add(21, "which", (x, n) -> x.which(n[0]), WHISTLE);
        addOther(22, "whose", -10, (x, n) -> x.whose(n[0]), Bound.of(22, "k below -1, too", -1, Integer.MAX_VALUE));
        add(23, "tell", (x, n) -> x.tell(n[0]), WHISTLE);
    }

    private void addKinds() {
        add(24, "note", (x, n) -> x.note(n[0], n[1], n[2]), WHISTLE, Bound.ofTerms("in STEP t (0 .. 99).", 0, 99),
            Bound.ofTerms("a WHISTLE went x (0 .. 20)", 0, 20));
        add(25, "mark", (x, n) -> x.mark(n[0], n[1], n[2]), SHEEP, Bound.ofTerms("the WHISTLE f (0 .. 8) off", 0, 8),
            Bound.ofTerms("a SHEEP gave way by x (0 .. 9)", 0, 9));
        add(26, "forget", (x, n) -> x.forget(n[0]), Bound.of(26, "No SEEN ones (0), NOTES (1), MARKS (2)", 0, 2));
        add(27, "is", (x, n) -> x.is(n[0]), WHISTLE);
        add(28, "look", (x, n) -> x.look(n[0]), WHISTLE);
        add(29, "kinds", (x, n) -> x.kinds(n[0]), SHEEP);
        add(30, "ask", (x, n) -> x.ask(n[0]), SHEEP);
    }

    private void addOdds() {
        Bound k = Bound.of(31, "k below -1, too", -1, Integer.MAX_VALUE);
        addOther(31, "shepherds, the first", -10, (x, n) -> x.shepherds(n[0], otherThan(n[0]), n[1]), WHISTLE, k);
        addOther(31, "shepherds, the second", -10, (x, n) -> x.shepherds(otherThan(n[0]), n[0], n[1]), WHISTLE, k);
        add(32, "misheard", (x, n) -> x.misheard(n[0], n[1], n[2], n[3], n[4]), SHEEP, WHISTLE, TWO_CALLS, TWO_CALLS,
            Bound.ofTerms("by c of 10 (0 .. 10) a CALL is heard", 0, 10));
        add(33, "winters", (x, n) -> x.winters(n[0], n[1]), Bound.ofTerms("a SEED (0 .. 999999)", 0, 999999),
            Bound.ofTerms("n (0 .. 60) STEPS", 0, 60));
    }

    private void addKept() {
        add(34, "part", (x, n) -> x.part(n[0]), Bound.of(34, "above (0), below (1).", 0, 1));
        add(35, "image", (x, n) -> x.image(n[0]), IMAGE);
        add(36, "from", (x, n) -> x.from(n[0]), IMAGE);
        addOther(37, "status", -1, (x, n) -> x.status(n[0]),
            Bound.of(37, "BAD (0), NO (1), FULL (2). -1: another what", 0, 2));
        add(38, "count", (x, n) -> x.count(n[0]), Bound.of(38, "0 SHEEP, 1 WHISTLES, 2 the STEP, 3 THE FOLD's CELL, "
            + "4 FOLDED, 5 SEEN, 6 NOTES, 7 MARKS, 8 that may be undone, 9 bytes of THE TEXT.", 0, 9));
    }

    private static int otherThan(int i) {
        return i == 0 ? 1 : 0;
    }

    private static void inside(Asking asking, Supplier<WhistleFlock> scene) {
        WhistleFlock asked = scene.get();
        for (int place = 0; place < asking.bounds.length && asking.mayBeTold(asked); place++) {
            for (int n : asking.bounds[place].inside(asked)) {
                int[] numbers = asking.leastOfAll();
                numbers[place] = n;
                isTaken(asking, scene.get(), asking.bounds[place].sentence(asking.promise), numbers);
            }
        }
    }

    private static void isTaken(Asking asking, WhistleFlock x, Sentence sentence, int[] numbers) {
        String what = asking.name + " " + Arrays.toString(numbers);
        int before = x.status(0);
        boolean isRefused = asking.way.ask(x, numbers) == asking.refusal;
        sentence.due(what + " is refused", isRefused ? 1 : 0, 0);
        sentence.due("status(0) behind " + what, x.status(0), before);
    }

    private static void outside(Asking asking, Supplier<WhistleFlock> scene) {
        for (int place = 0; place < asking.bounds.length; place++) {
            Sentence sentence = asking.bounds[place].sentence(asking.promise);
            for (int n : asking.bounds[place].outside(scene.get())) {
                int[] numbers = asking.leastOfAll();
                numbers[place] = n;
                sentence.refused(scene, asking.name + " " + Arrays.toString(numbers), x -> asking.way.ask(x, numbers),
                    asking.refusal, Sentence.AS_BAD);
            }
        }
    }

    private static void allOutside(Asking asking, Supplier<WhistleFlock> scene) {
        Sentence sentence = Sentence.ofTerms(asking.promise, "BAD -2 a number is not as told");
        int[] numbers = asking.leastOfAll();
        for (int place = 0; place < numbers.length; place++) {
            numbers[place]--;
        }
        sentence.refused(scene, asking.name + " " + Arrays.toString(numbers), x -> asking.way.ask(x, numbers),
            asking.refusal, Sentence.AS_BAD);
    }
}
