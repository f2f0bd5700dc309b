/** Promises 9 to 13: calls, steps, undoing, and what is known of whistles and sheep. */
final class CallTests {
    private static final int[] NO_CALLS = {-1, 5, Integer.MIN_VALUE, Integer.MAX_VALUE};
    private static final int[] NO_WHISTLES = {-1, 1, 3, Integer.MIN_VALUE, Integer.MAX_VALUE};

    /** How far each kind of whistle goes in steps 0 to 25, as the document's words say. */
    private static final String[] REACHES = {
        "11111111111111111111111111",
        "22222222222222222222222222",
        "01101101101101101101101101",
        "42222422224222242222422224",
        "12121212121212121212121212",
        "01101101101101101101212212"
    };

    private CallTests() {
    }

    static void run() {
        callMovesWhistle();
        callMovesSheep();
        callMovesManySheep();
        callIsRefused();
        steps();
        undo();
        undoIsCut();
        undoEnds();
        of();
        about();
    }

    private static void callMovesWhistle() {
        int[][] plain = {{12, 7, 13, 17, 11, 12}, {0, 0, 1, 5, 0, 0}, {24, 19, 24, 24, 23, 24}, {4, 4, 4, 9, 3, 4}};
        for (int[] row : plain) {
            for (int d = 0; d < 5; d++) {
                whistleComesTo(0, row[0], d, row[1 + d]);
            }
        }
        int[][] longer = {{12, 2, 14, 22, 10, 12}, {6, 1, 8, 16, 5, 6}, {18, 8, 19, 23, 16, 18}};
        for (int[] row : longer) {
            for (int d = 0; d < 5; d++) {
                whistleComesTo(1, row[0], d, row[1 + d]);
            }
        }
        whistleComesTo(2, 12, 1, 12);
        whistleComesTo(3, 10, 1, 14);
        whistleComesTo(3, 12, 0, 2);
        whistleComesTo(4, 12, 1, 13);
        whistleComesTo(5, 12, 1, 12);
    }

    private static void whistleComesTo(int kind, int cell, int d, int to) {
        WhistleFlock x = new WhistleFlock();
        x.whistle(kind, cell);
        Checks.due(9, "calls(0, " + d + ") of kind " + kind + " at " + cell, x.calls(0, d), 0);
        Checks.due(9, "its cell", x.of(0, 1), to);
        Checks.due(9, "the step", x.count(2), 1);
        Checks.due(9, "what may be undone", x.count(8), 1);
    }

    private static void callMovesSheep() {
        sheepComesTo(0, 13, 12, 14);
        sheepComesTo(0, 11, 12, 10);
        sheepComesTo(0, 7, 12, 2);
        sheepComesTo(0, 17, 12, 22);
        sheepComesTo(0, 12, 12, 13);
        sheepComesTo(0, 14, 14, 14);
        sheepComesTo(0, 14, 12, 14);
        sheepComesTo(0, 18, 12, 18);
        sheepComesTo(0, 0, 1, 0);
        sheepComesTo(1, 10, 10, 13);
        sheepComesTo(1, 12, 12, 14);
        sheepComesTo(1, 11, 10, 12);
        sheepComesTo(1, 12, 10, 12);
        sheepComesTo(2, 10, 10, 11);
        sheepComesTo(2, 11, 10, 11);
        sheepComesTo(3, 10, 10, 13);
        sheepComesTo(3, 11, 10, 12);
        sheepComesTo(3, 12, 10, 13);
        sheepComesTo(3, 13, 10, 14);
        sheepComesTo(3, 17, 10, 18);
        sheepComesTo(3, 15, 12, 15);
        sheepComesTo(3, 9, 5, 9);
        sheepComesTo(3, 16, 2, 16);
        sheepComesTo(3, 3, 12, 3);
        sheepComesTo(3, 8, 11, 9);
        sheepComesTo(3, 16, 7, 21);
        sheepComesTo(4, 10, 10, 12);
        sheepComesTo(4, 11, 10, 13);
        sheepComesTo(4, 12, 10, 13);
        sheepComesTo(4, 13, 10, 13);
        sheepComesTo(4, 16, 12, 21);
        sheepComesTo(4, 8, 12, 3);
        sheepComesTo(5, 10, 10, 13);
        sheepComesTo(5, 6, 5, 9);
        sheepComesTo(5, 12, 2, 22);
        sheepComesTo(5, 17, 2, 17);
        sheepComesTo(5, 22, 20, 24);
        sheepComesTo(5, 5, 10, 0);
    }

    private static void sheepComesTo(int kind, int cell, int whistle, int to) {
        WhistleFlock x = new WhistleFlock();
        x.whistle(0, whistle);
        x.sheep(kind, cell);
        String what = " of kind " + kind + " at " + cell + ", the whistle at " + whistle;
        Checks.due(9, "calls(0, 4), sheep" + what, x.calls(0, 4), cell == to ? 0 : 1);
        Checks.due(9, "the cell" + what, x.about(0, 1), to);
    }

    private static void callMovesManySheep() {
        WhistleFlock x = Checks.told("fell 0;whistle 0 12;whistle 0 20;sheep 0 12;sheep 0 11;sheep 4 17;sheep 0 21;");
        Checks.due(9, "calls(0, 1)", x.calls(0, 1), 2);
        int[] cells = {11, 11, 22, 21};
        for (int s = 0; s < cells.length; s++) {
            Checks.due(9, "about(" + s + ", 1)", x.about(s, 1), cells[s]);
        }
        Checks.due(9, "the other whistle stands", x.of(1, 1), 20);
        Checks.due(9, "calls(1, 4)", x.calls(1, 4), 2);
        Checks.due(9, "about(2, 1), two off", x.about(2, 1), 23);
        Checks.due(9, "about(3, 1), one off", x.about(3, 1), 22);
    }

    private static void callIsRefused() {
        WhistleFlock x = new WhistleFlock();
        Checks.due(9, "calls(0, 0), nobody there", x.calls(0, 0), -2);
        x.whistle(0, 12);
        for (int d : NO_CALLS) {
            Checks.due(9, "calls(0, " + d + ")", x.calls(0, d), -2);
        }
        for (int i : NO_WHISTLES) {
            Checks.due(9, "calls(" + i + ", 0)", x.calls(i, 0), -2);
        }
        Checks.due(9, "the step stays", x.count(2), 0);
        for (int n = 0; n < 100; n++) {
            x.steps(99);
        }
        x.steps(98);
        Checks.due(9, "calls(0, 1) in step 9998", x.calls(0, 1), 0);
        Checks.due(9, "calls(0, 1) in step 9999", x.calls(0, 1), -3);
        Checks.due(9, "calls(0, 5) in step 9999", x.calls(0, 5), -2);
        Checks.due(9, "the cell", x.of(0, 1), 13);
        Checks.due(9, "the step", x.count(2), 9999);
        Checks.due(9, "status(1)", x.status(1), 1);
        Checks.due(9, "undo()", x.undo(), 9998);
    }

    private static void steps() {
        WhistleFlock x = new WhistleFlock();
        Checks.due(10, "steps(0)", x.steps(0), -2);
        Checks.due(10, "steps(100)", x.steps(100), -2);
        Checks.due(10, "steps(-1)", x.steps(-1), -2);
        Checks.due(10, "steps(least)", x.steps(Integer.MIN_VALUE), -2);
        Checks.due(10, "steps(most)", x.steps(Integer.MAX_VALUE), -2);
        x.whistle(0, 12);
        x.sheep(0, 12);
        Checks.due(10, "steps(1)", x.steps(1), 1);
        Checks.due(10, "nobody calls", x.about(0, 1), 12);
        Checks.due(10, "steps(99)", x.steps(99), 100);
        Checks.due(10, "count(8)", x.count(8), 2);
        Checks.due(10, "undo()", x.undo(), 1);
        for (int n = 0; n < 100; n++) {
            x.steps(99);
        }
        Checks.due(10, "count(2)", x.count(2), 9901);
        Checks.due(10, "steps(97)", x.steps(97), 9998);
        Checks.due(10, "steps(99), 9999 stays", x.steps(99), 9999);
        Checks.due(10, "steps(5) in 9999", x.steps(5), 9999);
        Checks.due(10, "undo()", x.undo(), 9999);
        Checks.due(10, "undo()", x.undo(), 9998);
        Checks.due(10, "undo()", x.undo(), 9901);
        Checks.due(10, "status(1)", x.status(1), 0);
    }

    private static void undo() {
        WhistleFlock x = new WhistleFlock();
        Checks.due(11, "undo() of none", x.undo(), -3);
        x.whistle(0, 12);
        x.sheep(0, 13);
        x.steps(3);
        x.calls(0, 4);
        x.calls(0, 0);
        x.seen(0, 3);
        x.note(0, 1, 1);
        x.mark(0, 1, 1);
        x.type('q');
        Checks.due(11, "undo()", x.undo(), 4);
        Checks.due(11, "of(0, 1)", x.of(0, 1), 12);
        Checks.due(11, "about(0, 1)", x.about(0, 1), 14);
        Checks.due(11, "undo()", x.undo(), 3);
        Checks.due(11, "about(0, 1)", x.about(0, 1), 13);
        Checks.due(11, "undo()", x.undo(), 0);
        Checks.due(11, "undo()", x.undo(), -3);
        Checks.due(11, "SEEN stay", x.count(5), 1);
        Checks.due(11, "NOTES stay", x.count(6), 1);
        Checks.due(11, "MARKS stay", x.count(7), 1);
        Checks.due(11, "THE TEXT stays", x.count(9), 1);
        Checks.due(11, "status(1)", x.status(1), 2);
    }

    private static void undoIsCut() {
        WhistleFlock x = new WhistleFlock();
        x.whistle(0, 0);
        for (int n = 1; n <= 8; n++) {
            x.calls(0, n % 2 == 1 ? 1 : 2);
            Checks.due(11, "count(8)", x.count(8), n);
        }
        x.steps(9);
        Checks.due(11, "count(8) behind nine", x.count(8), 8);
        Checks.due(11, "undo()", x.undo(), 8);
        Checks.due(11, "of(0, 1)", x.of(0, 1), 24);
        int[] cells = {19, 18, 13, 12, 7, 6, 1};
        for (int n = 0; n < cells.length; n++) {
            Checks.due(11, "undo()", x.undo(), 7 - n);
            Checks.due(11, "of(0, 1)", x.of(0, 1), cells[n]);
        }
        Checks.due(11, "undo() of the first", x.undo(), -3);
    }

    private static void undoEnds() {
        WhistleFlock x = new WhistleFlock();
        x.steps(1);
        x.whistle(0, 0);
        Checks.due(11, "undo() behind a whistle", x.undo(), -3);
        x.steps(1);
        x.sheep(0, 0);
        Checks.due(11, "undo() behind a sheep", x.undo(), -3);
        x.steps(1);
        x.fold(3);
        Checks.due(11, "undo() behind THE FOLD", x.undo(), -3);
        x.steps(1);
        x.whistle(6, 0);
        x.sheep(0, 25);
        x.fold(3);
        x.fold(25);
        x.fell(25);
        x.calls(0, 5);
        x.calls(1, 0);
        Checks.due(11, "count(8) behind what is refused", x.count(8), 1);
        Checks.due(11, "undo() behind what is refused", x.undo(), 3);
        x.whistle(0, 0);
        x.whistle(0, 0);
        x.steps(1);
        Checks.due(11, "whistle, a 4th", x.whistle(0, 0), -4);
        Checks.due(11, "undo() behind a whistle that is none", x.undo(), 3);
        x.steps(1);
        x.fell(0);
        Checks.due(11, "undo() behind a fell", x.undo(), -3);
    }

    private static void of() {
        for (int kind = 0; kind < 6; kind++) {
            WhistleFlock x = new WhistleFlock();
            x.whistle(kind, 24 - kind);
            Checks.due(12, "of(0, 0)", x.of(0, 0), kind);
            Checks.due(12, "of(0, 1)", x.of(0, 1), 24 - kind);
            for (int t = 0; t < REACHES[kind].length(); t++) {
                Checks.due(12, "of(0, 2), kind " + kind + ", step " + t, x.of(0, 2), REACHES[kind].charAt(t) - '0');
                x.steps(1);
            }
            for (int i : NO_WHISTLES) {
                Checks.due(12, "of(" + i + ", 0)", x.of(i, 0), -2);
            }
            Checks.due(12, "of(0, -1)", x.of(0, -1), -2);
            Checks.due(12, "of(0, 3)", x.of(0, 3), -2);
            Checks.due(12, "status(0)", x.status(0), 7);
        }
    }

    private static void about() {
        WhistleFlock x = new WhistleFlock();
        Checks.due(13, "about(0, 0), nobody there", x.about(0, 0), -2);
        x.fold(7);
        int[] fars = {3, 1, 3, 2, 5, 5, 0};
        int[] cells = {0, 2, 4, 9, 20, 24, 7};
        for (int s = 0; s < cells.length; s++) {
            x.sheep(s % 6, cells[s]);
            Checks.due(13, "about(" + s + ", 0)", x.about(s, 0), s % 6);
            Checks.due(13, "about(" + s + ", 1)", x.about(s, 1), cells[s]);
            Checks.due(13, "about(" + s + ", 2)", x.about(s, 2), fars[s]);
        }
        Checks.due(13, "about(7, 0)", x.about(7, 0), -2);
        Checks.due(13, "about(-1, 0)", x.about(-1, 0), -2);
        Checks.due(13, "about(0, 3)", x.about(0, 3), -2);
        Checks.due(13, "about(0, -1)", x.about(0, -1), -2);
    }
}
