import java.util.Arrays;
import java.util.function.Supplier;

/** Promises 1 to 5 and 9 to 13, and what may be undone: how a fell comes to be, and what calls change. */
final class CallSentences {
    private static final int NO = WhistleFlock.NO, FULL = WhistleFlock.FULL, LIE = 4;

    private CallSentences() {
    }

    static void run() {
        newObject();
        fell();
        fellOnceMore();
        whistles();
        sheep();
        fold();
        calls();
        callsOfTheLastStep();
        steps();
        stepsAreOne();
        stepsOfTheLastStep();
        ofWhistle();
        ofSheep();
        undo();
        undoTakesAllBack();
        undoMost();
        undoGoesOn();
        undoNone();
        undoBehindRefused();
    }

    private static void newObject() {
        Sentence s = Sentence.of(1, "As told; nobody is there.");
        for (int what = 0; what <= 9; what++) {
            int n = what;
            s.onlyTold(Scenes::nobody, "count(" + n + ")", x -> x.count(n), 0);
        }
        for (int what = 0; what <= 2; what++) {
            int n = what;
            s.onlyTold(Scenes::nobody, "status(" + n + ")", x -> x.status(n), 0);
        }
        s.onlyTold(Scenes::nobody, "part(0)", x -> x.part(0), 0);
        s.onlyTold(Scenes::nobody, "part(1)", x -> x.part(1), 1);
        s.onlyTold(Scenes::nobody, "folded()", WhistleFlock::folded, 0);
        s.onlyTold(Scenes::nobody, "clear()", WhistleFlock::clear, 0);
        s.onlyTold(Scenes::nobody, "read()", WhistleFlock::read, -10);
        s.onlyTold(Scenes::nobody, "whose(-1)", x -> x.whose(-1), 0);
        s.onlyTold(Scenes::nobody, "winters(0, 60)", x -> x.winters(0, 60), 0);
        s.refused(Scenes::nobody, "undo()", WhistleFlock::undo, NO, Sentence.AS_NO);
        s.refused(Scenes::nobody, "from(0)", x -> x.from(0), NO, Sentence.AS_NO);
        s.refused(Scenes::nobody, "from(1)", x -> x.from(1), NO, Sentence.AS_NO);
        WhistleFlock one = new WhistleFlock();
        WhistleFlock other = new WhistleFlock();
        one.sheep(0, 0);
        one.image(0);
        s.due("another object has its own sheep", other.count(0), 0);
        s.due("another object has its own images", other.from(0), NO);
    }

    private static void fell() {
        Sentence s = Sentence.of(2, "THE FOLD; all else as at first (but for IMAGES, THE TEXT, THE FRACTION, STATUS):");
        for (int cell : new int[] {0, 9, 24}) {
            WhistleFlock x = Scenes.full();
            s.done(x, "fell(" + cell + ")", y -> y.fell(cell), 7);
            int[] counts = {0, 0, 0, cell, 0, 0, 0, 0, 0, 150};
            for (int what = 0; what < counts.length; what++) {
                s.due("count(" + what + ")", x.count(what), counts[what]);
            }
            s.due("undo()", x.undo(), NO);
            s.due("whistle", x.whistle(0, 0), 0);
            s.due("sheep", x.sheep(0, 0), 0);
            s.due("is(0), no notes", x.is(0), 63);
            s.due("read(), THE TEXT is as it was", x.read(), 15);
        }
        Supplier<WhistleFlock> felled = () -> felled(Scenes.full(), 9);
        for (int n = 0; n < 2; n++) {
            int i = n;
            s.due("the image " + i, from(felled.get(), i), from(Scenes.full(), i));
        }
        WhistleFlock some = Scenes.some();
        long fraction = 1000 * some.part(0) + some.part(1);
        some.fell(3);
        s.due("THE FRACTION is as it was", 1000 * some.part(0) + some.part(1), fraction);
        s.due("the image that was none", some.from(1), NO);
    }

    private static WhistleFlock felled(WhistleFlock x, int cell) {
        x.fell(cell);
        return x;
    }

    private static long from(WhistleFlock x, int i) {
        x.from(i);
        return x.digest();
    }

    private static void fellOnceMore() {
        Sentence s = Sentence.of(2, "how many SHEEP there were.");
        WhistleFlock x = new WhistleFlock();
        s.done(x, "fell(0), it is so, nobody there", y -> y.fell(0), 0);
        for (int many = 1; many <= 7; many++) {
            for (int n = 0; n < many; n++) {
                x.sheep(0, n);
            }
            s.done(x, "fell(0), it is so, " + many + " there", y -> y.fell(0), many);
        }
        s.done(x, "fell(24), nobody there", y -> y.fell(24), 0);
    }

    private static WhistleFlock withWhistles(int many) {
        WhistleFlock x = Scenes.nobody();
        for (int n = 0; n < many; n++) {
            x.whistle(n, n);
        }
        return x;
    }

    private static WhistleFlock withSheep(int many) {
        WhistleFlock x = Scenes.nobody();
        for (int n = 0; n < many; n++) {
            x.sheep(n % 6, n);
        }
        return x;
    }

    private static void whistles() {
        Sentence s = Sentence.of(3, "A WHISTLE: its number.");
        for (int n = 0; n < 3; n++) {
            s.done(withWhistles(n), "whistle(5, 24), " + n + " there", x -> x.whistle(5, 24), n);
        }
        Sentence full = Sentence.of(3, "FULL: 3.");
        full.done(withWhistles(2), "a 3rd", x -> x.whistle(0, 0), 2);
        full.refused(() -> withWhistles(3), "a 4th", x -> x.whistle(0, 0), FULL, Sentence.AS_FULL);
        full.refused(Scenes::full, "a 4th where all is full", x -> x.whistle(5, 24), FULL, Sentence.AS_FULL);
        full.done(felled(withWhistles(3), 0), "one behind a fell", x -> x.whistle(0, 0), 0);
    }

    private static void sheep() {
        Sentence s = Sentence.of(4, "A SHEEP: its number.");
        for (int n = 0; n < 7; n++) {
            s.done(withSheep(n), "sheep(5, 24), " + n + " there", x -> x.sheep(5, 24), n);
        }
        Sentence full = Sentence.of(4, "FULL: 7.");
        full.done(withSheep(6), "a 7th", x -> x.sheep(0, 0), 6);
        full.refused(() -> withSheep(7), "an 8th", x -> x.sheep(0, 0), FULL, Sentence.AS_FULL);
        full.refused(Scenes::full, "an 8th where all is full", x -> x.sheep(5, 24), FULL, Sentence.AS_FULL);
        full.done(felled(withSheep(7), 0), "one behind a fell", x -> x.sheep(0, 0), 0);
    }

    private static void fold() {
        Sentence s = Sentence.of(5, "THE FOLD is a CELL: which it was.");
        WhistleFlock x = Scenes.full();
        s.done(x, "fold(0)", y -> y.fold(0), 24);
        s.done(x, "fold(24)", y -> y.fold(24), 0);
        s.done(x, "fold(23)", y -> y.fold(23), 24);
        int[] counts = {7, 3, 10, 23, x.count(4), 5, 6, 6, 0, 150};
        for (int what = 0; what < counts.length; what++) {
            s.due("count(" + what + ")", x.count(what), counts[what]);
        }
        Sentence no = Sentence.of(5, "NO: it is so.");
        no.refused(Scenes::nobody, "fold(0)", y -> y.fold(0), NO, Sentence.AS_NO);
        no.refused(Scenes::some, "fold(12)", y -> y.fold(12), NO, Sentence.AS_NO);
        no.refused(Scenes::full, "fold(24)", y -> y.fold(24), NO, Sentence.AS_NO);
        no.done(Scenes.some(), "fold(11)", y -> y.fold(11), 12);
        no.done(Scenes.some(), "fold(13)", y -> y.fold(13), 12);
    }

    private static void calls() {
        Sentence s = Sentence.of(9, "A CALL to a WHISTLE: how many SHEEP went elsewhere.");
        for (int many = 0; many <= 7; many++) {
            WhistleFlock x = Checks.told("fell 0;whistle 0 12;");
            for (int n = 0; n < 7; n++) {
                x.sheep(0, n < many ? 12 : 24);
            }
            s.done(x, many + " of seven", y -> y.calls(0, LIE), many);
        }
        WhistleFlock border = Checks.told("fell 0;whistle 0 4;sheep 0 4;sheep 5 4;");
        s.done(border, "none at the border", y -> y.calls(0, LIE), 0);
        WhistleFlock nobody = Checks.told("fell 0;whistle 0 4;");
        s.done(nobody, "nobody there", y -> y.calls(0, LIE), 0);
    }

    private static void callsOfTheLastStep() {
        Sentence s = Sentence.of(9, "NO: STEP 9999.");
        for (int n = 0; n <= LIE; n++) {
            int d = n;
            s.refused(Scenes::last, "calls(0, " + d + ") in 9999", x -> x.calls(0, d), NO, Sentence.AS_NO);
        }
        WhistleFlock x = Scenes.last();
        s.due("undo()", x.undo(), 9998);
        s.done(x, "a call in 9998", y -> y.calls(1, 3), 1);
        s.due("count(2)", x.count(2), 9999);
        s.refused(Scenes::last, "no call in 9999", y -> y.calls(0, 5), WhistleFlock.BAD, Sentence.AS_BAD);
        s.refused(Scenes::last, "no whistle in 9999", y -> y.calls(2, 0), WhistleFlock.BAD, Sentence.AS_BAD);
    }

    private static void steps() {
        Sentence s = Sentence.of(10, "n STEPS go by without one (1 .. 99;");
        Sentence.of(10, "9999 stays): the STEP.");
        WhistleFlock x = Checks.told("fell 0;whistle 0 12;sheep 0 12;");
        s.done(x, "steps(1)", y -> y.steps(1), 1);
        s.done(x, "steps(99)", y -> y.steps(99), 100);
        s.due("count(2)", x.count(2), 100);
        s.due("nobody calls", x.about(0, 1), 12);
        s.due("the whistle stands", x.of(0, 1), 12);
        for (int bad : new int[] {0, 100, -1, Integer.MIN_VALUE, Integer.MAX_VALUE}) {
            s.refused(Scenes::some, "steps(" + bad + ")", y -> y.steps(bad), WhistleFlock.BAD, Sentence.AS_BAD);
            s.refused(Scenes::last, "steps(" + bad + ") in 9999", y -> y.steps(bad), WhistleFlock.BAD, Sentence.AS_BAD);
        }
    }

    private static void stepsAreOne() {
        Sentence s = Sentence.of(10, "together one that may be undone;");
        WhistleFlock x = new WhistleFlock();
        x.steps(99);
        s.due("count(8)", x.count(8), 1);
        x.steps(1);
        s.due("count(8)", x.count(8), 2);
        s.due("undo()", x.undo(), 99);
        s.due("undo()", x.undo(), 0);
        s.due("undo()", x.undo(), NO);
    }

    private static void stepsOfTheLastStep() {
        Sentence s = Sentence.of(10, "9999 stays");
        for (int n : new int[] {1, 2, 99}) {
            WhistleFlock x = new WhistleFlock();
            Scenes.toStep(x, 9998);
            s.done(x, "steps(" + n + ") in 9998", y -> y.steps(n), 9999);
            s.done(x, "steps(" + n + ") in 9999", y -> y.steps(n), 9999);
            s.due("undo()", x.undo(), 9999);
            s.due("undo()", x.undo(), 9998);
        }
        WhistleFlock x = new WhistleFlock();
        Scenes.toStep(x, 9900);
        s.due("steps(99) in 9900", x.steps(99), 9999);
        x.undo();
        s.due("steps(98) in 9900", x.steps(98), 9998);
    }

    private static void ofWhistle() {
        Sentence s = Sentence.of(12, "Of a WHISTLE: KIND (0), CELL (1), how many CELLS it goes by a CALL now (2).");
        int[][] rows = {{0, 24, 1}, {1, 0, 2}, {2, 12, 0}, {3, 23, 4}, {4, 4, 1}, {5, 20, 0}};
        for (int[] row : rows) {
            WhistleFlock x = new WhistleFlock();
            x.whistle(1, 1);
            x.whistle(row[0], row[1]);
            for (int what = 0; what < 3; what++) {
                s.due("of(1, " + what + ")", x.of(1, what), row[what]);
            }
        }
    }

    private static void ofSheep() {
        Sentence s = Sentence.of(13, "Of a SHEEP: KIND (0), CELL (1), how FAR from THE FOLD (2).");
        int[][] rows = {{0, 24, 8}, {1, 0, 0}, {2, 12, 4}, {3, 23, 7}, {4, 4, 4}, {5, 20, 4}};
        for (int[] row : rows) {
            WhistleFlock x = new WhistleFlock();
            x.sheep(1, 1);
            x.sheep(row[0], row[1]);
            for (int what = 0; what < 3; what++) {
                s.due("about(1, " + what + ")", x.about(1, what), row[what]);
            }
            x.fold(row[1]);
            s.due("about(1, 2) in the fold", x.about(1, 2), 0);
        }
    }

    private static void undo() {
        Sentence s = Sentence.ofTerms(11,
            "UNDO: where WHISTLES, SHEEP are, the STEP as ahead of the last CALL, STEPS gone by");
        Sentence.of(11, "UNDO: the STEP then.");
        WhistleFlock x = Checks.told("fell 0;whistle 0 12;whistle 1 0;sheep 0 13;steps 3;");
        x.calls(0, 1);
        x.steps(7);
        x.calls(1, 2);
        s.done(x, "undo() of a call", WhistleFlock::undo, 11);
        s.due("of(1, 1)", x.of(1, 1), 0);
        s.due("of(0, 1)", x.of(0, 1), 13);
        s.done(x, "undo() of steps", WhistleFlock::undo, 4);
        s.due("about(0, 1)", x.about(0, 1), 14);
        s.done(x, "undo() of the first", WhistleFlock::undo, 3);
        s.due("of(0, 1)", x.of(0, 1), 12);
        s.due("about(0, 1)", x.about(0, 1), 13);
        s.due("count(2)", x.count(2), 3);
    }

    /** All are there, nothing may be undone, and a call to the last moves him and all sheep. */
    private static WhistleFlock crowd() {
        return Checks.told("fell 3;whistle 0 0;whistle 0 4;whistle 0 12;sheep 0 13;sheep 0 13;sheep 0 13;sheep 0 13;"
            + "sheep 0 13;sheep 0 13;sheep 0 13;");
    }

    private static void undoTakesAllBack() {
        Sentence s = Sentence.ofTerms(11, "where WHISTLES, SHEEP are, the STEP as ahead of the last CALL");
        WhistleFlock x = crowd();
        long before = x.digest();
        s.due("calls(2, 1), all go", x.calls(2, 1), 7);
        s.due("undo()", x.undo(), 0);
        s.due("all are as ahead of it", x.digest(), before);
        x.calls(2, 1);
        x.seen(6, 13);
        x.note(2, 0, 1);
        x.mark(6, 0, 1);
        x.image(1);
        x.misheard(6, 2, 4, 4, 5);
        x.type('a');
        x.fold(3);
        long fraction = 1000 * x.part(0) + x.part(1);
        int bytes = x.count(9);
        s.due("undo()", x.undo(), 0);
        s.due("the sheep are as ahead of it", x.about(6, 1), 13);
        s.due("what else has changed stays", 100 * x.count(5) + 10 * x.count(6) + x.count(7), 111);
        s.due("THE TEXT stays", x.count(9), bytes);
        s.due("THE FRACTION stays", 1000 * x.part(0) + x.part(1), fraction);
        s.due("STATUS stays", x.status(1), 1);
        s.due("IMAGES stay", x.from(1), 1);
    }

    private static void undoMost() {
        Sentence s = Sentence.ofTerms(11, "(8 at most;");
        for (int many : new int[] {1, 7, 8, 9, 10, 20}) {
            WhistleFlock x = Checks.told("fell 0;whistle 0 0;");
            for (int n = 0; n < many; n++) {
                x.calls(0, n % 2 == 0 ? 1 : 3);
                s.due("count(8) behind " + (n + 1), x.count(8), Math.min(8, n + 1));
            }
            for (int n = many - 1; n >= Math.max(0, many - 8); n--) {
                s.done(x, "undo() of " + many, WhistleFlock::undo, n);
                s.due("the whistle's cell", x.of(0, 1), n % 2);
            }
            s.due("one more undo() of " + many, x.undo(), NO);
        }
    }

    private static void undoGoesOn() {
        Sentence s = Sentence.ofTerms(11, "the STEP as ahead of the last CALL, STEPS gone by (8 at most;");
        WhistleFlock x = new WhistleFlock();
        for (int n = 1; n <= 9; n++) {
            x.steps(n);
        }
        s.due("undo()", x.undo(), 36);
        s.due("undo()", x.undo(), 28);
        x.steps(50);
        s.due("count(8)", x.count(8), 7);
        x.steps(51);
        x.steps(52);
        s.due("count(8)", x.count(8), 8);
        int[] steps = {129, 78, 28, 21, 15, 10, 6, 3};
        for (int step : steps) {
            s.due("undo()", x.undo(), step);
        }
        s.due("undo()", x.undo(), NO);
    }

    private static void undoNone() {
        Sentence s = Sentence.ofTerms(11, "behind THE FOLD told, a WHISTLE, a SHEEP that comes none may be).");
        WhistleFlock x = new WhistleFlock();
        x.steps(1);
        x.fold(1);
        s.due("behind THE FOLD told", x.count(8), 0);
        s.due("undo()", x.undo(), NO);
        x.steps(1);
        x.whistle(0, 0);
        s.due("behind a WHISTLE", x.count(8), 0);
        s.due("undo()", x.undo(), NO);
        x.steps(1);
        x.sheep(0, 0);
        s.due("behind a SHEEP", x.count(8), 0);
        s.due("undo()", x.undo(), NO);
        x.calls(0, 0);
        s.due("count(8)", x.count(8), 1);
        x.fell(0);
        s.due("behind a fell", x.undo(), NO);
        Sentence no = Sentence.of(11, "NO: none may be.");
        no.refused(Scenes::nobody, "undo()", WhistleFlock::undo, NO, Sentence.AS_NO);
        no.refused(CallSentences::crowd, "undo() behind a fell that was read", WhistleFlock::undo, NO, Sentence.AS_NO);
    }

    private static void undoBehindRefused() {
        Sentence s = Sentence.ofTerms(11, "a SHEEP that comes none may be).");
        WhistleFlock x = Scenes.full();
        int may = x.count(8);
        s.due("as many as may be", may, 8);
        x.fold(24);
        x.fold(25);
        x.whistle(0, 0);
        x.whistle(6, 0);
        x.sheep(0, 0);
        x.sheep(0, 25);
        x.fell(25);
        x.calls(3, 0);
        x.steps(0);
        s.due("those that do not come leave it", x.count(8), may);
        for (Supplier<WhistleFlock> scene : Arrays.<Supplier<WhistleFlock>>asList(Scenes::some, Scenes::full)) {
            WhistleFlock y = scene.get();
            int before = y.count(8);
            y.seen(0, 0);
            y.note(0, 0, 0);
            y.mark(0, 0, 0);
            y.forget(0);
            y.type(' ');
            y.clear();
            y.read();
            y.image(0);
            y.misheard(0, 0, 0, 0, 0);
            s.due("what is no call leaves it", y.count(8), before);
        }
    }
}
