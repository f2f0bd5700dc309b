/** The first part of the terms: cells, how far, the fold, those who are there, steps, kinds, what a call does. */
final class GroundSentences {
    private static final int UP = 0, ON = 1, DOWN = 2, BACK = 3, LIE = 4;

    private GroundSentences() {
    }

    static void run() {
        cells();
        far();
        firstFold();
        whistlesAsTheyCome();
        sheepAsTheyCome();
        stepNumbers();
        ways();
        whistleKinds();
        whistleToLie();
        sheepKinds();
        sheepKindsByMarks();
        notBeyondTheBorder();
        thenEachGivesWay();
        sheepAtTheBorder();
        byRows();
        byColumns();
        oneStepMore();
    }

    private static void cells() {
        Sentence s = Sentence.ofTerms(14, "24: 5 times the ROW (0 .. 4) and the COLUMN (0 .. 4)");
        int[][] ends = {{0, 0, 1, 5, 0}, {4, 4, 4, 9, 3}, {5, 0, 6, 10, 5}, {9, 4, 9, 14, 8}, {15, 10, 16, 20, 15},
            {19, 14, 19, 24, 18}, {20, 15, 21, 20, 20}, {24, 19, 24, 24, 23}};
        for (int[] row : ends) {
            WhistleFlock x = new WhistleFlock();
            x.whistle(0, row[0]);
            for (int d = UP; d <= BACK; d++) {
                s.due("from " + row[0] + " by " + d, x.goes(0, d), row[1 + d]);
            }
        }
    }

    private static void far() {
        Sentence s = Sentence.ofTerms(13, "FAR is by ROWS and COLUMNS together");
        int[][] fars = {{0, 0, 0}, {0, 24, 8}, {24, 0, 8}, {4, 20, 8}, {0, 4, 4}, {0, 20, 4}, {4, 5, 5}, {5, 4, 5},
            {12, 12, 0}, {12, 6, 2}, {12, 11, 1}, {9, 10, 5}};
        for (int[] row : fars) {
            WhistleFlock x = new WhistleFlock();
            x.fell(row[0]);
            x.sheep(0, row[1]);
            s.due(row[1] + " from " + row[0], x.about(0, 2), row[2]);
        }
    }

    private static void firstFold() {
        Sentence s = Sentence.ofTerms(1, "THE FOLD: a CELL (0 at first).");
        WhistleFlock x = new WhistleFlock();
        s.due("count(3)", x.count(3), 0);
        x.sheep(0, 0);
        x.sheep(0, 1);
        s.due("folded()", x.folded(), 1);
    }

    private static void whistlesAsTheyCome() {
        Sentence s = Sentence.ofTerms(3, "WHISTLES 0 .. 2, as they come: a KIND, a CELL.");
        WhistleFlock x = new WhistleFlock();
        for (int i = 0; i < 3; i++) {
            int cell = 24 - i;
            int kind = 5 - i;
            s.due("count(1)", x.count(1), i);
            s.done(x, "whistle(" + kind + ", " + cell + ")", y -> y.whistle(kind, cell), i);
            s.due("KIND", x.of(i, 0), kind);
            s.due("CELL", x.of(i, 1), cell);
        }
        s.due("count(1)", x.count(1), 3);
        s.due("a 4th", x.whistle(0, 0), WhistleFlock.FULL);
    }

    private static void sheepAsTheyCome() {
        Sentence s = Sentence.ofTerms(4, "SHEEP 0 .. 6, as they come: a KIND, a CELL.");
        WhistleFlock x = new WhistleFlock();
        for (int n = 0; n < 7; n++) {
            int cell = 24 - n;
            int kind = n % 6;
            s.due("count(0)", x.count(0), n);
            s.done(x, "sheep(" + kind + ", " + cell + ")", y -> y.sheep(kind, cell), n);
            s.due("KIND", x.about(n, 0), kind);
            s.due("CELL", x.about(n, 1), cell);
        }
        s.due("count(0)", x.count(0), 7);
        s.due("an 8th", x.sheep(0, 0), WhistleFlock.FULL);
    }

    private static void stepNumbers() {
        Sentence s = Sentence.ofTerms(10, "STEPS have numbers, 0 at first (9999 at most).");
        WhistleFlock x = new WhistleFlock();
        x.whistle(0, 0);
        s.due("count(2) at first", x.count(2), 0);
        Scenes.toStep(x, 9997);
        s.due("steps(1)", x.steps(1), 9998);
        s.due("a call in 9998", x.calls(0, ON), 0);
        s.due("count(2)", x.count(2), 9999);
        s.due("a call in 9999", x.calls(0, ON), WhistleFlock.NO);
        s.due("steps(1) in 9999", x.steps(1), 9999);
        s.due("count(2)", x.count(2), 9999);
    }

    private static void ways() {
        Sentence s = Sentence.ofTerms(9,
            "CALLS: 0 up (a ROW less), 1 on (a COLUMN more), 2 down (a ROW more), 3 back (a COLUMN less), 4 lie.");
        int[] cells = {7, 13, 17, 11, 12};
        for (int d = UP; d <= LIE; d++) {
            WhistleFlock x = new WhistleFlock();
            x.whistle(0, 12);
            x.calls(0, d);
            s.due("from 12 by " + d, x.of(0, 1), cells[d]);
        }
    }

    private static void whistleKinds() {
        goes(0, "0 PLAIN: 1.", 0, 1, 1, 1, 9998, 1, 9999, 1);
        goes(1, "1 LONG (under PLAIN): 1 more than PLAIN.", 0, 2, 1, 2, 9998, 2, 9999, 2);
        goes(2, "2 LIP (under PLAIN): as PLAIN, but 0, if 3 divides t.",
            0, 0, 1, 1, 2, 1, 3, 0, 4, 1, 99, 0, 100, 1, 9998, 1, 9999, 0);
        goes(3, "3 TEMPER (under LONG): twice LONG, if 5 divides t, else as LONG.",
            0, 4, 1, 2, 4, 2, 5, 4, 6, 2, 9, 2, 10, 4, 9995, 4, 9999, 2);
        goes(4, "4 KETTLE (under PLAIN): PLAIN, 1 more, if t is an odd number.", 0, 1, 1, 2, 2, 1, 3, 2, 9998, 1, 9999, 2);
        goes(5, "5 OLD (under LIP): LIP, 1 more, if t is 20 or more.",
            0, 0, 1, 1, 18, 0, 19, 1, 20, 2, 21, 1, 22, 2, 9998, 2, 9999, 1);
    }

    /** STEPS, each with the CELLS that the kind goes in it. */
    private static void goes(int kind, String words, int... stepsAndCells) {
        Sentence s = Sentence.ofTerms(12, words);
        WhistleFlock x = new WhistleFlock();
        x.whistle(kind, 10);
        for (int n = 0; n < stepsAndCells.length; n += 2) {
            Scenes.toStep(x, stepsAndCells[n]);
            s.due("of(0, 2) in step " + stepsAndCells[n], x.of(0, 2), stepsAndCells[n + 1]);
            s.due("goes(0, 1) in step " + stepsAndCells[n], x.goes(0, ON), 10 + stepsAndCells[n + 1]);
        }
    }

    private static void whistleToLie() {
        Sentence s = Sentence.ofTerms(9, "say how many CELLS one goes by a CALL (not to lie) in STEP t:");
        for (int kind = 0; kind < 6; kind++) {
            WhistleFlock x = new WhistleFlock();
            x.whistle(kind, 12);
            x.steps(25);
            s.due("goes(0, 4), kind " + kind, x.goes(0, LIE), 12);
            x.calls(0, LIE);
            s.due("the cell of kind " + kind, x.of(0, 1), 12);
            s.due("the step", x.count(2), 26);
        }
    }

    private static final String[] SHEEP_WORDS = {
        "0 EWE: 1, if f is 1 or less, else 0.",
        "1 LAMB (under EWE): 2 more than EWE, if f is 0, else as EWE.",
        "2 RAM (under EWE): as EWE, if f is 0, else 0.",
        "3 TOURIST (under LAMB): LAMB, 1 at least, if f is 3 or less.",
        "4 HOGG (under EWE): EWE, 1 more, if f is 2 or less.",
        "5 STRAY (under HOGG): twice HOGG, 3 at most."
    };

    /** How many CELLS each kind gives way, the whistle 0 to 8 off. */
    private static final String[] WAYS_GIVEN = {
        "110000000", "310000000", "100000000", "311100000", "221000000", "332000000"
    };

    private static void sheepKinds() {
        Sentence.ofTerms(15, "say how many CELLS one gives way, the WHISTLE being so FAR off (f):");
        int[][] places = {{10, 10, 1}, {10, 11, 1}, {10, 12, 1}, {10, 13, 1}, {0, 12, 5}, {0, 17, 5}, {0, 18, 5}};
        for (int kind = 0; kind < 6; kind++) {
            Sentence s = Sentence.ofTerms(15, SHEEP_WORDS[kind]);
            for (int f = 0; f < places.length; f++) {
                WhistleFlock x = new WhistleFlock();
                x.whistle(0, places[f][0]);
                x.sheep(kind, places[f][1]);
                int cells = WAYS_GIVEN[kind].charAt(f) - '0';
                s.due("the whistle " + f + " off", x.gives(0, 0, LIE), places[f][1] + places[f][2] * cells);
                s.due("how many went, " + f + " off", x.calls(0, LIE), cells == 0 ? 0 : 1);
            }
        }
    }

    private static void sheepKindsByMarks() {
        for (int kind = 0; kind < 6; kind++) {
            Sentence s = Sentence.ofTerms(29, SHEEP_WORDS[kind]);
            WhistleFlock x = new WhistleFlock();
            x.sheep(0, 0);
            for (int f = 0; f <= 8; f++) {
                for (int cells = 0; cells <= 4; cells++) {
                    x.mark(0, f, cells);
                    int isSo = WAYS_GIVEN[kind].charAt(f) - '0' == cells ? 1 : 0;
                    s.due(cells + " by " + f + " off", x.kinds(0) >> kind & 1, isSo);
                    x.forget(2);
                }
            }
        }
    }

    private static void notBeyondTheBorder() {
        Sentence s = Sentence.ofTerms(9,
            "A CALL to a WHISTLE: it goes so many CELLS that way (to lie: none), not beyond the border;");
        int[][] longer = {{6, 1, 8, 16, 5}, {0, 0, 2, 10, 0}, {24, 14, 24, 24, 22}, {18, 8, 19, 23, 16}, {12, 2, 14, 22, 10}};
        for (int[] row : longer) {
            for (int d = UP; d <= BACK; d++) {
                comesTo(s, 1, row[0], d, row[1 + d]);
            }
        }
        int[][] temper = {{12, 2, 14, 22, 10}, {0, 0, 4, 20, 0}, {24, 4, 24, 24, 20}, {20, 0, 24, 20, 20}, {4, 4, 4, 24, 0}};
        for (int[] row : temper) {
            for (int d = UP; d <= BACK; d++) {
                comesTo(s, 3, row[0], d, row[1 + d]);
            }
        }
    }

    private static void comesTo(Sentence s, int kind, int cell, int d, int to) {
        WhistleFlock x = new WhistleFlock();
        x.whistle(kind, cell);
        s.due("calls(0, " + d + ") of kind " + kind + " in " + cell, x.calls(0, d), 0);
        s.due("its cell behind " + d + ", kind " + kind + " in " + cell, x.of(0, 1), to);
    }

    private static void thenEachGivesWay() {
        Sentence s = Sentence.ofTerms(9, "then each SHEEP gives way to it (to that WHISTLE alone), by as many CELLS,");
        WhistleFlock x = oneOfEachIn(12);
        x.whistle(0, 24);
        s.due("nobody to the other, calls(1, 4)", x.calls(1, LIE), 0);
        areIn(s, x, 12, 12, 12, 12, 12, 12, 12);
        s.due("from where it comes to, calls(0, 3)", x.calls(0, BACK), 6);
        areIn(s, x, 13, 13, 12, 13, 14, 14, 13);
        s.due("those who stay are not counted, calls(0, 4)", x.calls(0, LIE), 1);
        areIn(s, x, 13, 13, 12, 14, 14, 14, 13);
        WhistleFlock other = oneOfEachIn(11);
        s.due("into their cell, calls(0, 3)", other.calls(0, BACK), 7);
        areIn(s, other, 12, 14, 12, 14, 13, 14, 12);
        s.due("calls(0, 4)", other.calls(0, LIE), 3);
        areIn(s, other, 13, 14, 12, 14, 14, 14, 13);
    }

    /** A plain whistle in 12, and seven sheep in one cell. */
    private static WhistleFlock oneOfEachIn(int cell) {
        WhistleFlock x = new WhistleFlock();
        x.whistle(0, 12);
        for (int n = 0; n < 7; n++) {
            x.sheep(n % 6, cell);
        }
        return x;
    }

    private static void areIn(Sentence s, WhistleFlock x, int... cells) {
        for (int n = 0; n < cells.length; n++) {
            s.due("the cell of sheep " + n, x.about(n, 1), cells[n]);
        }
    }

    private static void sheepAtTheBorder() {
        Sentence s = Sentence.ofTerms(9, "by as many CELLS, not beyond the border: away from it:");
        int[][] places = {{10, 10, 13}, {11, 11, 14}, {12, 12, 14}, {13, 13, 14}, {14, 14, 14}, {9, 9, 9}, {13, 14, 14},
            {11, 10, 10}, {7, 2, 2}, {17, 22, 22}, {6, 5, 5}, {0, 0, 3}, {24, 24, 24}, {23, 24, 24}, {1, 0, 0}};
        for (int[] row : places) {
            WhistleFlock x = new WhistleFlock();
            x.whistle(0, row[0]);
            x.sheep(5, row[1]);
            s.due("a stray in " + row[1] + ", the whistle in " + row[0], x.calls(0, LIE), row[1] == row[2] ? 0 : 1);
            s.due("its cell, the whistle in " + row[0], x.about(0, 1), row[2]);
        }
    }

    private static void byRows() {
        Sentence s = Sentence.ofTerms(15, "by ROWS, if it is 1 ROW off at least and as many ROWS as COLUMNS, or more;");
        int[][] places = {{12, 17, 22}, {12, 7, 2}, {12, 18, 23}, {12, 16, 21}, {12, 8, 3}, {12, 6, 1}, {7, 17, 22},
            {17, 7, 2}, {7, 18, 23}, {7, 16, 21}, {17, 8, 3}, {17, 6, 1}};
        for (int[] row : places) {
            givesTo(s, row);
        }
    }

    private static void byColumns() {
        Sentence s = Sentence.ofTerms(15, "else by COLUMNS (in the same CELL: on).");
        int[][] places = {{12, 13, 14}, {12, 11, 10}, {11, 13, 14}, {13, 11, 10}, {11, 18, 19}, {11, 8, 9}, {13, 16, 15},
            {13, 6, 5}, {0, 0, 1}, {12, 12, 13}, {14, 14, 14}, {24, 24, 24}, {3, 3, 4}};
        for (int[] row : places) {
            givesTo(s, row);
        }
    }

    /** A whistle's cell, a sheep's, and where this comes to: a tourist, who goes one cell up to three off. */
    private static void givesTo(Sentence s, int[] row) {
        WhistleFlock x = new WhistleFlock();
        x.whistle(0, row[0]);
        x.sheep(row[0] == row[1] ? 0 : 3, row[1]);
        s.due("gives, " + row[1] + " by " + row[0], x.gives(0, 0, LIE), row[2]);
        x.calls(0, LIE);
        s.due("its cell, " + row[1] + " by " + row[0], x.about(0, 1), row[2]);
    }

    private static void oneStepMore() {
        Sentence s = Sentence.ofTerms(9, "The STEP is one more.");
        WhistleFlock x = new WhistleFlock();
        x.whistle(0, 0);
        for (int n = 1; n <= 5; n++) {
            x.calls(0, n - 1);
            s.due("count(2)", x.count(2), n);
        }
        Scenes.toStep(x, 9998);
        x.calls(0, LIE);
        s.due("count(2)", x.count(2), 9999);
    }
}
