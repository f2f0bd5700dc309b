/** The second part of the terms, from SEEN to WINTERS: which call, which kind, two shepherds, odds, winters. */
final class WhichSentences {
    private static final int NONE = WhistleFlock.NONE, FULL = WhistleFlock.FULL;
    private static final String ONE_AND_ONE = "fell 0;whistle 0 12;sheep 0 13;sheep 0 17;";
    private static final String FOUR = "fell 0;whistle 0 12;sheep 0 0;sheep 0 13;sheep 0 12;sheep 0 12;";

    /** KINDS of WHISTLES (bits), the STEP that parts them best, and notes by which they are left: each a STEP and x. */
    private static final int[][] LEFT_BY_NOTES = {
        {0, NONE, 0, 3}, {0, NONE, 99, 20}, {1, 0, 3, 1}, {2, 0, 0, 2}, {4, 0, 21, 0}, {5, 0, 23, 1}, {8, 0, 0, 4},
        {10, 0, 2, 2}, {16, 0, 0, 1, 1, 2}, {17, 1, 0, 1}, {18, 0, 5, 2}, {21, 3, 20, 1}, {26, 0, 1, 2},
        {32, 0, 0, 0, 20, 2}, {33, 0, 21, 1}, {34, 0, 20, 2}, {36, 20, 0, 0}, {37, 0, 1, 1}, {42, 0, 22, 2},
        {48, 0, 2, 1, 23, 2}, {49, 3, 24, 1}, {50, 0, 25, 2}, {53, 0, 2, 1}, {58, 0, 23, 2}, {63, 0}
    };

    /** The same of KINDS of SHEEP: how FAR parts them best, and marks, each a distance and x. */
    private static final int[][] LEFT_BY_MARKS = {
        {0, NONE, 0, 0}, {0, NONE, 8, 9}, {1, 0, 0, 1, 1, 1}, {2, 0, 0, 3, 2, 0}, {3, 0, 1, 1, 2, 0}, {4, 0, 1, 0},
        {5, 1, 0, 1}, {7, 0, 2, 0}, {8, 0, 3, 1}, {10, 2, 0, 3, 1, 1}, {11, 0, 1, 1}, {16, 0, 0, 2}, {24, 0, 2, 1},
        {32, 0, 1, 3}, {34, 1, 0, 3, 3, 0}, {42, 2, 0, 3}, {55, 0, 3, 0}, {63, 0, 8, 0}, {63, 0}
    };

    private WhichSentences() {
    }

    static void run() {
        seenOnes();
        which();
        whose();
        whoseNotSoMany();
        tell();
        tellNone();
        notes();
        isAndLook();
        ofOneAlone();
        marks();
        kindsAndAsk();
        forget();
        shepherds();
        shepherdsByStep();
        shepherdsNotSoMany();
        shepherdsAreRefused();
        misheard();
        misheardByOdds();
        winters();
        wintersBySteps();
        wintersAreCut();
    }

    /** A fell told by a text, and behind it SHEEP with the CELLS to which they were seen to come. */
    private static WhistleFlock seen(String text, int... sheepAndCells) {
        WhistleFlock x = Checks.told(text);
        for (int n = 0; n < sheepAndCells.length; n += 2) {
            x.seen(sheepAndCells[n], sheepAndCells[n + 1]);
        }
        return x;
    }

    private static void seenOnes() {
        Sentence s = Sentence.ofTerms(20, "SEEN 0 .. 4, as they come: by one CALL a SHEEP came to a CELL.");
        Sentence.of(20, "SEEN: how many there are.");
        WhistleFlock x = Checks.told(ONE_AND_ONE);
        s.due("count(5)", x.count(5), 0);
        for (int n = 1; n <= 5; n++) {
            s.done(x, "seen " + n, y -> y.seen(0, 14), n);
            s.due("count(5)", x.count(5), n);
        }
        Sentence full = Sentence.of(20, "FULL: 5.");
        full.refused(() -> seen(ONE_AND_ONE, 0, 0, 0, 1, 0, 2, 0, 3, 1, 4), "a 6th", y -> y.seen(1, 24), FULL,
            Sentence.AS_FULL);
        full.done(seen(ONE_AND_ONE, 0, 0, 0, 1, 0, 2, 0, 3), "a 5th", y -> y.seen(1, 24), 5);
    }

    private static void which() {
        Sentence s = Sentence.ofTerms(21,
            "WHICH for a WHISTLE: CALLS (bits 0 to 4) to it now by which all SEEN are so.");
        Sentence.of(21, "WHICH, as bits.");
        s.onlyTold(() -> seen(ONE_AND_ONE), "none seen", x -> x.which(0), 31);
        s.onlyTold(() -> seen(ONE_AND_ONE, 0, 14), "by on and to lie", x -> x.which(0), 18);
        s.onlyTold(() -> seen(ONE_AND_ONE, 0, 13), "by the others", x -> x.which(0), 13);
        s.onlyTold(() -> seen(ONE_AND_ONE, 0, 14, 1, 22), "to lie alone", x -> x.which(0), 16);
        s.onlyTold(() -> seen(ONE_AND_ONE, 0, 14, 1, 17), "on alone", x -> x.which(0), 2);
        s.onlyTold(() -> seen(FOUR, 2, 17), "up alone", x -> x.which(0), 1);
        s.onlyTold(() -> seen(ONE_AND_ONE, 0, 14, 0, 14, 0, 14, 0, 14, 0, 14), "five of one kind", x -> x.which(0), 18);
        s.onlyTold(() -> seen(ONE_AND_ONE, 0, 14, 0, 14, 0, 14, 0, 14, 0, 13), "the fifth is not so", x -> x.which(0), 0);
        s.onlyTold(() -> seen(ONE_AND_ONE, 0, 13, 0, 14, 0, 14, 0, 14, 0, 14), "the first is not so", x -> x.which(0), 0);
        WhistleFlock later = seen("fell 0;whistle 2 12;sheep 0 14;", 0, 14);
        s.due("in step 0 it goes nowhere", later.which(0), 31);
        WhistleFlock lip = seen("fell 0;whistle 2 12;sheep 0 13;", 0, 14);
        s.due("in step 0", lip.which(0), 31);
        lip.steps(1);
        s.due("in step 1", lip.which(0), 18);
    }

    private static void whose() {
        Sentence s = Sentence.ofTerms(22,
            "WHOSE: pairs 10 times a WHISTLE and a CALL by which all SEEN are so: how many; the k-th (rising).");
        Sentence.of(22, "WHOSE: how many (k = NONE), the k-th.");
        String three = "fell 0;whistle 0 12;whistle 0 14;whistle 0 0;sheep 0 13;";
        s.onlyTold(() -> seen(three), "all pairs", x -> x.whose(NONE), 15);
        for (int n = 0; n < 15; n++) {
            int k = n;
            s.onlyTold(() -> seen(three), "the " + k + "-th of all", x -> x.whose(k), 10 * (k / 5) + k % 5);
        }
        int[] pairs = {1, 4, 13};
        s.onlyTold(() -> seen(three, 0, 14), "three pairs", x -> x.whose(NONE), 3);
        for (int n = 0; n < pairs.length; n++) {
            int k = n;
            s.onlyTold(() -> seen(three, 0, 14), "the " + k + "-th of three", x -> x.whose(k), pairs[k]);
        }
        s.onlyTold(() -> seen(three, 0, 0), "none is so", x -> x.whose(NONE), 0);
        s.onlyTold(Scenes::nobody, "nobody there", x -> x.whose(NONE), 0);
    }

    private static void whoseNotSoMany() {
        Sentence s = Sentence.of(22, "-5: not so many.");
        String one = "fell 0;whistle 0 12;sheep 0 13;";
        for (int k : new int[] {5, 6, Integer.MAX_VALUE}) {
            s.onlyTold(() -> seen(one), "of five, k = " + k, x -> x.whose(k), -5);
        }
        s.onlyTold(() -> seen(one), "of five, k = 4", x -> x.whose(4), 4);
        for (int k : new int[] {0, 1, Integer.MAX_VALUE}) {
            s.onlyTold(Scenes::nobody, "of none, k = " + k, x -> x.whose(k), -5);
            s.onlyTold(() -> seen(one, 0, 0), "of none that is so, k = " + k, x -> x.whose(k), -5);
        }
        Sentence bad = Sentence.of(22, "BAD: -10: k below -1, too.");
        for (int k : new int[] {-2, -3, Integer.MIN_VALUE}) {
            bad.refused(Scenes::nobody, "k = " + k, x -> x.whose(k), -10, Sentence.AS_BAD);
        }
    }

    private static void tell() {
        Sentence s = Sentence.ofTerms(23,
            "TELL for a WHISTLE: the SHEEP that parts CALLS of WHICH best: by which the most by which it comes"
                + " to one CELL are fewest; of like ones the first;");
        Sentence.of(23, "TELL.");
        s.onlyTold(() -> seen(FOUR), "the third is as the fourth", x -> x.tell(0), 2);
        s.onlyTold(() -> seen(FOUR, 2, 13), "of back and to lie", x -> x.tell(0), 1);
        s.onlyTold(() -> seen(FOUR, 2, 13, 1, 14), "one call alone", x -> x.tell(0), 0);
        s.onlyTold(() -> seen("fell 0;whistle 0 24;sheep 0 0;sheep 0 1;"), "none parts them", x -> x.tell(0), 0);
        s.onlyTold(() -> seen("fell 0;whistle 0 24;sheep 0 0;sheep 0 1;sheep 0 2;sheep 0 3;sheep 0 0;sheep 0 1;sheep 0 23;"),
            "the last alone", x -> x.tell(0), 6);
    }

    private static void tellNone() {
        Sentence s = Sentence.ofTerms(23, "none: no CALL, no SHEEP.");
        Sentence.of(23, "NONE.");
        s.onlyTold(() -> seen(FOUR, 2, 13, 0, 24), "no call", x -> x.tell(0), NONE);
        s.onlyTold(() -> seen("fell 0;whistle 0 12;"), "no sheep", x -> x.tell(0), NONE);
    }

    private static void notes() {
        Sentence s = Sentence.ofTerms(24,
            "NOTES 0 .. 5, as they come: a WHISTLE went x (0 .. 20) in STEP t (0 .. 99).");
        Sentence.of(24, "A NOTE: how many there are.");
        WhistleFlock x = Checks.told(ONE_AND_ONE);
        s.due("count(6)", x.count(6), 0);
        for (int n = 1; n <= 6; n++) {
            s.done(x, "note " + n, y -> y.note(0, 99, 20), n);
            s.due("count(6)", x.count(6), n);
        }
        Sentence full = Sentence.of(24, "FULL: 6.");
        full.refused(() -> noted(6), "a 7th", y -> y.note(0, 0, 4), FULL, Sentence.AS_FULL);
        full.done(noted(5), "a 6th", y -> y.note(0, 0, 4), 6);
        WhistleFlock six = noted(5);
        six.note(0, 0, 4);
        full.due("the sixth is held", six.is(0), 0);
    }

    private static WhistleFlock noted(int many) {
        WhistleFlock x = Checks.told(ONE_AND_ONE);
        for (int n = 0; n < many; n++) {
            x.note(0, 0, 1);
        }
        return x;
    }

    private static void isAndLook() {
        Sentence is = Sentence.ofTerms(27, "IS: KINDS (bits) by which all NOTES of one are so.");
        Sentence.of(27, "IS, as bits.");
        Sentence look = Sentence.ofTerms(28,
            "LOOK: the STEP t (0 .. 29) by which the most of these KINDS that go as far are fewest; of like ones"
                + " the least; none: no KIND.");
        Sentence.of(28, "LOOK. NONE.");
        for (int[] row : LEFT_BY_NOTES) {
            is.onlyTold(() -> leftBy(row, true), "is(0)", x -> x.is(0), row[0]);
            look.onlyTold(() -> leftBy(row, true), "look(0), kinds " + row[0], x -> x.look(0), row[1]);
        }
    }

    /** One whistle and one sheep with the row's notes or marks. */
    private static WhistleFlock leftBy(int[] row, boolean byNotes) {
        WhistleFlock x = Checks.told("fell 0;whistle 3 0;sheep 3 0;");
        for (int n = 2; n < row.length; n += 2) {
            if (byNotes) {
                x.note(0, row[n], row[n + 1]);
            } else {
                x.mark(0, row[n], row[n + 1]);
            }
        }
        return x;
    }

    private static void ofOneAlone() {
        Sentence s = Sentence.ofTerms(27, "by which all NOTES of one are so.");
        WhistleFlock x = Checks.told("fell 0;whistle 3 0;whistle 0 0;whistle 0 0;sheep 0 0;sheep 0 0;");
        x.note(1, 0, 1);
        x.note(2, 0, 3);
        x.note(1, 1, 2);
        s.due("is(0)", x.is(0), 63);
        s.due("is(1)", x.is(1), 16);
        s.due("is(2)", x.is(2), 0);
        s.due("look(0)", x.look(0), 0);
        s.due("look(2)", x.look(2), NONE);
        x.mark(1, 0, 3);
        x.mark(1, 1, 1);
        x.mark(0, 0, 9);
        Sentence marks = Sentence.ofTerms(29, "by which all MARKS of one are so.");
        marks.due("kinds(0)", x.kinds(0), 0);
        marks.due("kinds(1)", x.kinds(1), 10);
        marks.due("ask(0)", x.ask(0), NONE);
        marks.due("ask(1)", x.ask(1), 2);
    }

    private static void marks() {
        Sentence s = Sentence.ofTerms(25,
            "MARKS 0 .. 5, as they come: a SHEEP gave way by x (0 .. 9), the WHISTLE f (0 .. 8) off.");
        Sentence.of(25, "A MARK: how many there are.");
        WhistleFlock x = Checks.told(ONE_AND_ONE);
        s.due("count(7)", x.count(7), 0);
        for (int n = 1; n <= 6; n++) {
            s.done(x, "mark " + n, y -> y.mark(1, 8, 9), n);
            s.due("count(7)", x.count(7), n);
        }
        Sentence full = Sentence.of(25, "FULL: 6.");
        full.refused(() -> marked(6), "a 7th", y -> y.mark(0, 8, 9), FULL, Sentence.AS_FULL);
        full.done(marked(5), "a 6th", y -> y.mark(0, 8, 9), 6);
        WhistleFlock six = marked(5);
        six.mark(0, 8, 9);
        full.due("the sixth is held", six.kinds(0), 0);
    }

    private static WhistleFlock marked(int many) {
        WhistleFlock x = Checks.told(ONE_AND_ONE);
        for (int n = 0; n < many; n++) {
            x.mark(0, 0, 1);
        }
        return x;
    }

    private static void kindsAndAsk() {
        Sentence kinds = Sentence.ofTerms(29, "WHAT: KINDS of SHEEP (bits) by which all MARKS of one are so.");
        Sentence.of(29, "WHAT, as bits.");
        Sentence ask = Sentence.ofTerms(30,
            "ASK: how FAR f (0 .. 8) by which the most of these KINDS that give way alike are fewest; of like"
                + " ones the least; none: no KIND.");
        Sentence.of(30, "ASK. NONE.");
        for (int[] row : LEFT_BY_MARKS) {
            kinds.onlyTold(() -> leftBy(row, false), "kinds(0)", x -> x.kinds(0), row[0]);
            ask.onlyTold(() -> leftBy(row, false), "ask(0), kinds " + row[0], x -> x.ask(0), row[1]);
        }
    }

    private static void forget() {
        Sentence s = Sentence.of(26, "No SEEN ones (0), NOTES (1), MARKS (2): how many there were.");
        int[] were = {5, 6, 6};
        for (int n = 0; n < 3; n++) {
            int what = n;
            WhistleFlock x = Scenes.full();
            s.done(x, "forget(" + what + ")", y -> y.forget(what), were[what]);
            for (int other = 0; other < 3; other++) {
                s.due("count(" + (5 + other) + ") behind it", x.count(5 + other), other == what ? 0 : were[other]);
            }
            s.onlyTold(Scenes::nobody, "forget(" + what + ") of none", y -> y.forget(what), 0);
        }
        WhistleFlock x = seen(ONE_AND_ONE, 0, 0, 0, 0, 0, 0, 0, 0, 0, 0);
        x.forget(0);
        s.due("one comes behind none", x.seen(0, 14), 1);
        s.due("which(0) by it alone", x.which(0), 18);
    }

    private static void resting(Sentence s, String text, int a, int b, int... pairs) {
        s.onlyTold(() -> Checks.told(text), "how many of " + text, x -> x.shepherds(a, b, NONE), pairs.length);
        for (int n = 0; n < pairs.length; n++) {
            int k = n;
            s.onlyTold(() -> Checks.told(text), "the " + k + "-th of " + text, x -> x.shepherds(a, b, k), pairs[k]);
        }
        s.onlyTold(() -> Checks.told(text), "one more of " + text, x -> x.shepherds(a, b, pairs.length), -5);
    }

    private static void shepherds() {
        Sentence s = Sentence.ofTerms(31,
            "SHEPHERDS: two unlike WHISTLES a, b, CALLS i, j (0 .. 4) to each (to a now, then to b in the next"
                + " STEP): to who calls a how many SHEEP are in THE FOLD then, to who calls b how many are not; less 1"
                + " to each whose CALL is not to lie: pairs 10 i and j that rest (neither would get more by another"
                + " CALL): how many; the k-th (rising).");
        Sentence.of(31, "SHEPHERDS: how many (k = NONE), the k-th.");
        resting(s, "fell 0;whistle 0 3;whistle 0 24;", 0, 1, 44);
        resting(s, "fell 0;whistle 0 3;whistle 0 24;sheep 0 1;", 0, 1, 34, 44);
        resting(s, "fell 0;whistle 0 3;whistle 0 24;sheep 0 1;", 1, 0, 44);
        resting(s, "fell 0;whistle 0 3;whistle 0 24;sheep 0 1;sheep 0 1;", 0, 1, 34);
        resting(s, "fell 4;whistle 4 7;whistle 3 1;sheep 1 1;", 0, 1, 41, 42, 43, 44);
        resting(s, "fell 3;whistle 4 0;whistle 2 13;sheep 0 8;", 0, 1, 40, 41, 42, 43, 44);
        resting(s, "fell 20;whistle 0 24;whistle 3 0;sheep 5 21;sheep 0 5;sheep 5 10;", 0, 1, 31, 32, 34, 41, 42, 44);
        resting(s, "fell 4;whistle 1 11;whistle 4 14;sheep 5 1;sheep 1 8;sheep 1 9;", 0, 1, 0, 2, 3, 4, 40, 42, 43, 44);
        resting(s, "fell 13;whistle 3 12;whistle 0 2;sheep 0 13;sheep 5 13;sheep 0 17;", 0, 1,
            1, 2, 4, 21, 22, 24, 31, 32, 34);
        resting(s, "fell 12;whistle 3 8;whistle 4 3;sheep 4 5;sheep 3 6;", 0, 1);
    }

    private static void shepherdsByStep() {
        Sentence s = Sentence.ofTerms(31, "(to a now, then to b in the next STEP)");
        resting(s, "fell 12;whistle 0 24;whistle 4 9;sheep 0 12;sheep 0 12;", 0, 1, 43);
        resting(s, "fell 1;whistle 0 16;whistle 0 24;sheep 0 6;sheep 0 6;", 0, 1, 4);
        resting(s, "fell 6;whistle 0 24;whistle 0 16;sheep 0 6;sheep 0 6;", 0, 1, 40);
    }

    private static void shepherdsNotSoMany() {
        Sentence s = Sentence.of(31, "-5: not so many.");
        String none = "fell 12;whistle 3 8;whistle 4 3;sheep 4 5;sheep 3 6;";
        for (int k : new int[] {0, 1, 24, 25, Integer.MAX_VALUE}) {
            s.onlyTold(() -> Checks.told(none), "of none, k = " + k, x -> x.shepherds(0, 1, k), -5);
        }
        String two = "fell 0;whistle 0 3;whistle 0 24;sheep 0 1;";
        for (int k : new int[] {2, 3, 24, 25, Integer.MAX_VALUE}) {
            s.onlyTold(() -> Checks.told(two), "of two, k = " + k, x -> x.shepherds(0, 1, k), -5);
        }
    }

    private static void shepherdsAreRefused() {
        Sentence s = Sentence.of(31, "BAD: -10: alike a, b, k below -1, too.");
        for (int n = 0; n < 3; n++) {
            int a = n;
            for (int k : new int[] {NONE, 0, Integer.MAX_VALUE}) {
                s.refused(Scenes::full, "alike " + a, x -> x.shepherds(a, a, k), -10, Sentence.AS_BAD);
            }
            int b = (a + 1) % 3;
            s.onlyTold(Scenes::full, "unlike " + a, x -> x.shepherds(a, b, Integer.MAX_VALUE), -5);
            for (int k : new int[] {-2, -3, Integer.MIN_VALUE}) {
                s.refused(Scenes::full, "k = " + k, x -> x.shepherds(a, b, k), -10, Sentence.AS_BAD);
            }
        }
        s.refused(Scenes::nobody, "alike, nobody there", x -> x.shepherds(0, 0, NONE), -10, Sentence.AS_BAD);
    }

    private static void hears(Sentence s, String text, int d, int e, int c, int above, int below) {
        WhistleFlock x = Checks.told(text);
        String what = "misheard(0, 0, " + d + ", " + e + ", " + c + ") of " + text;
        s.done(x, what, y -> y.misheard(0, 0, d, e, c), 1);
        s.due("above of " + what, x.part(0), above);
        s.due("below of " + what, x.part(1), below);
        s.due("nobody has called", x.count(2), 0);
    }

    private static void misheard() {
        Sentence s = Sentence.ofTerms(32,
            "MISHEARD: by c of 10 (0 .. 10) a CALL is heard as the next one (behind 4 comes 0):");
        String back = "fell 0;whistle 0 3;sheep 0 1;";
        hears(s, back, 3, 4, 0, 1, 1);
        hears(s, back, 3, 4, 10, 0, 1);
        hears(s, back, 2, 4, 10, 1, 1);
        hears(s, back, 2, 4, 0, 0, 1);
        hears(s, back, 3, 4, 3, 7, 10);
        String up = "fell 1;whistle 0 16;sheep 0 6;";
        hears(s, up, 0, 2, 0, 1, 1);
        hears(s, up, 4, 2, 10, 1, 1);
        hears(s, up, 4, 2, 0, 0, 1);
        hears(s, up, 4, 2, 3, 3, 10);
        hears(s, up, 4, 0, 0, 1, 1);
        hears(s, up, 3, 4, 10, 1, 1);
        hears(s, up, 3, 4, 0, 0, 1);
    }

    /** Two calls back are needed, each heard as such by c of 10 where down was called, else where back was. */
    private static void misheardByOdds() {
        Sentence s = Sentence.ofTerms(32,
            "the chance that a SHEEP is in THE FOLD behind two CALLS d, e (0 .. 4) to a WHISTLE, one behind the"
                + " other from now on, each heard apart: THE FRACTION.");
        Sentence.of(32, "MISHEARD is THE FRACTION: 1.");
        String twice = "fell 0;whistle 0 4;sheep 0 2;";
        int[] above = {0, 1, 1, 9, 4, 1, 9, 49, 16, 81, 1};
        int[] below = {1, 100, 25, 100, 25, 4, 25, 100, 25, 100, 1};
        for (int c = 0; c <= 10; c++) {
            hears(s, twice, 2, 2, c, above[c], below[c]);
            hears(s, twice, 3, 3, c, above[10 - c], below[10 - c]);
        }
        hears(s, twice, 2, 3, 2, 4, 25);
        hears(s, twice, 3, 2, 4, 6, 25);
        hears(s, "fell 4;whistle 4 0;sheep 2 3;", 1, 1, 0, 1, 1);
        hears(s, "fell 4;whistle 4 0;sheep 2 3;", 1, 4, 0, 0, 1);
        hears(s, "fell 4;whistle 2 2;sheep 2 3;", 1, 4, 0, 0, 1);
        hears(s, "fell 4;whistle 2 2;sheep 2 3;", 4, 1, 0, 1, 1);
        WhistleFlock last = Checks.told("fell 0;whistle 0 24;whistle 0 3;sheep 0 24;sheep 0 13;sheep 0 1;");
        s.done(last, "misheard(2, 1, 3, 4, 3)", x -> x.misheard(2, 1, 3, 4, 3), 1);
        s.due("of the last by the second", 1000 * last.part(0) + last.part(1), 7010);
        last.misheard(1, 1, 3, 4, 3);
        s.due("of another", 1000 * last.part(0) + last.part(1), 1);
        last.misheard(2, 0, 3, 4, 3);
        s.due("by another", 1000 * last.part(0) + last.part(1), 1);
        WhistleFlock both = Checks.told("fell 0;whistle 0 24;whistle 0 4;sheep 0 24;sheep 0 13;sheep 0 2;");
        both.misheard(2, 1, 3, 3, 1);
        s.due("by two calls to the second", 1000 * both.part(0) + both.part(1), 81100);
    }

    private static void wintered(Sentence s, String text, int seed, int n, int folded) {
        s.onlyTold(() -> Checks.told(text), "winters(" + seed + ", " + n + ") of " + text, x -> x.winters(seed, n), folded);
    }

    private static void winters() {
        Sentence s = Sentence.ofTerms(33,
            "WINTERS by a SEED (0 .. 999999), n (0 .. 60) STEPS: X is SEED at first; in each STEP X becomes X"
                + " times 1103515245 and 12345, by 2147483648 what is left over;");
        Sentence.of(33, "WINTERS.");
        String sixty = "fell 24;whistle 1 13;whistle 1 17;whistle 4 23;sheep 0 2;sheep 2 20;";
        wintered(s, sixty, 0, 0, 0);
        wintered(s, sixty, 0, 59, 0);
        wintered(s, sixty, 0, 60, 1);
        String other = "fell 24;whistle 0 4;whistle 5 9;whistle 3 19;sheep 1 0;sheep 5 22;sheep 5 5;";
        wintered(s, other, 999999, 59, 0);
        wintered(s, other, 999999, 60, 1);
        wintered(s, "fell 7;sheep 0 7;sheep 5 7;sheep 0 8;", 999999, 0, 2);
        wintered(s, "fell 7;whistle 0 7;sheep 0 7;sheep 5 7;", 0, 0, 2);
        wintered(s, "fell 24;sheep 0 24;sheep 0 24;sheep 0 24;sheep 0 24;sheep 0 24;sheep 0 24;sheep 0 24;", 5, 60, 7);
    }

    /** By 0 the whistle 0 is called up, then on; by 1 the whistle 2 is called down, then 1 to lie, then 0 down. */
    private static void wintersBySteps() {
        Sentence s = Sentence.ofTerms(33,
            "WHISTLE X by 65536 (cut), by 3 left over (not there: none, the STEP goes by), is called by X by"
                + " 1048576 (cut), by 5 left over: how many SHEEP are in THE FOLD behind them.");
        wintered(s, "fell 0;whistle 0 7;sheep 0 1;", 0, 1, 1);
        wintered(s, "fell 0;whistle 0 7;sheep 0 1;", 1, 1, 0);
        wintered(s, "fell 22;whistle 2 7;sheep 0 17;", 1, 2, 0);
        wintered(s, "fell 22;whistle 2 7;sheep 0 17;", 1, 3, 1);
        wintered(s, "fell 22;whistle 0 24;whistle 0 24;whistle 0 7;sheep 0 17;", 1, 1, 1);
        wintered(s, "fell 22;whistle 0 24;whistle 0 24;sheep 0 17;", 1, 1, 0);
        wintered(s, "fell 14;whistle 0 24;whistle 0 12;sheep 0 13;", 1, 1, 0);
        wintered(s, "fell 14;whistle 0 24;whistle 0 12;sheep 0 13;", 1, 2, 1);
        wintered(s, "fell 3;sheep 0 3;sheep 5 3;", 5, 60, 2);
    }

    /** X just above or below what 1048576 divides, and what 65536 divides: a divisor one off would call otherwise. */
    private static void wintersAreCut() {
        Sentence s = Sentence.ofTerms(33, "is called by X by 1048576 (cut), by 5 left over:");
        wintered(s, "fell 22;whistle 0 7;sheep 0 17;", 4034, 1, 1);
        wintered(s, "fell 14;whistle 0 11;sheep 0 13;", 7383, 1, 1);
        wintered(s, "fell 14;whistle 0 24;whistle 0 24;whistle 0 12;sheep 0 13;", 3, 1, 1);
        wintered(s, "fell 14;whistle 0 12;whistle 0 24;whistle 0 24;sheep 0 13;", 9, 1, 1);
    }
}
