/** Promises 20 to 33: which call it was, what a whistle and a sheep is, two shepherds, odds, winters. */
final class WhichTests {
    private static final int[] NOT_ONE = {-1, 1, 7, Integer.MIN_VALUE, Integer.MAX_VALUE};
    private static final int[] NO_CELLS = {-1, 25, Integer.MIN_VALUE, Integer.MAX_VALUE};
    private static final int[] NO_CALLS = {-1, 5, Integer.MIN_VALUE, Integer.MAX_VALUE};

    private WhichTests() {
    }

    static void run() {
        seen();
        which();
        whose();
        tell();
        note();
        mark();
        forget();
        is();
        look();
        kinds();
        ask();
        shepherds();
        shepherdsAreRefused();
        misheard();
        misheardIsRefused();
        winters();
    }

    private static void seen() {
        WhistleFlock x = new WhistleFlock();
        Checks.due(20, "seen(0, 0), nobody there", x.seen(0, 0), -2);
        x.sheep(0, 13);
        for (int many = 1; many <= 5; many++) {
            int c = many == 1 ? 0 : 24;
            Checks.due(20, "seen(0, " + c + ")", x.seen(0, c), many);
        }
        Checks.due(20, "seen, a 6th", x.seen(0, 0), -4);
        for (int c : NO_CELLS) {
            Checks.due(20, "seen(0, " + c + ")", x.seen(0, c), -2);
        }
        for (int s : NOT_ONE) {
            Checks.due(20, "seen(" + s + ", 0)", x.seen(s, 0), -2);
        }
        Checks.due(20, "count(5)", x.count(5), 5);
        Checks.due(20, "status(0)", x.status(0), 10);
        Checks.due(20, "status(2)", x.status(2), 1);
    }

    private static void which() {
        WhistleFlock x = Checks.told("fell 0;whistle 0 12;sheep 0 13;sheep 0 17;");
        Checks.due(21, "which(0), none seen", x.which(0), 31);
        x.seen(0, 14);
        Checks.due(21, "which(0), seen in 14", x.which(0), 2 + 16);
        x.seen(1, 22);
        Checks.due(21, "which(0), seen in 14 and 22", x.which(0), 16);
        x.seen(0, 13);
        Checks.due(21, "which(0), no call fits", x.which(0), 0);
        x.forget(0);
        x.seen(0, 13);
        Checks.due(21, "which(0), seen in 13", x.which(0), 1 + 4 + 8);
        x.steps(1);
        x.calls(0, 3);
        Checks.due(21, "which(0) from now on", x.which(0), 1 + 4 + 8 + 16);
        for (int i : NOT_ONE) {
            Checks.due(21, "which(" + i + ")", x.which(i), -2);
        }
    }

    private static void whose() {
        WhistleFlock x = Checks.told("fell 0;whistle 0 12;whistle 0 14;whistle 0 0;sheep 0 13;");
        Checks.due(22, "whose(-1), none seen", x.whose(-1), 15);
        Checks.due(22, "whose(14)", x.whose(14), 24);
        Checks.due(22, "whose(15)", x.whose(15), -5);
        x.seen(0, 14);
        int[] pairs = {1, 4, 13};
        Checks.due(22, "whose(-1)", x.whose(-1), 3);
        for (int k = 0; k < pairs.length; k++) {
            Checks.due(22, "whose(" + k + ")", x.whose(k), pairs[k]);
        }
        Checks.due(22, "whose(3)", x.whose(3), -5);
        Checks.due(22, "whose(most)", x.whose(Integer.MAX_VALUE), -5);
        Checks.due(22, "whose(-2)", x.whose(-2), -10);
        Checks.due(22, "whose(least)", x.whose(Integer.MIN_VALUE), -10);
        Checks.due(22, "status(0)", x.status(0), 2);
        Checks.due(22, "status(1)", x.status(1), 0);
        x.seen(0, 0);
        Checks.due(22, "whose(-1), none fits", x.whose(-1), 0);
        Checks.due(22, "whose(0), none fits", x.whose(0), -5);
    }

    private static void tell() {
        WhistleFlock none = new WhistleFlock();
        none.whistle(0, 12);
        Checks.due(23, "tell(0), no sheep", none.tell(0), -1);
        WhistleFlock x = Checks.told("fell 0;whistle 0 12;sheep 0 0;sheep 0 13;sheep 0 12;sheep 0 12;");
        long before = x.digest();
        Checks.due(23, "tell(0), none seen", x.tell(0), 2);
        Checks.due(23, "nothing is changed by tell", x.digest(), before);
        x.seen(2, 13);
        Checks.due(23, "tell(0), 3 or 4", x.tell(0), 1);
        x.seen(1, 14);
        Checks.due(23, "tell(0), 4 alone", x.tell(0), 0);
        x.seen(0, 24);
        Checks.due(23, "tell(0), no call", x.tell(0), -1);
        for (int i : NOT_ONE) {
            Checks.due(23, "tell(" + i + ")", x.tell(i), -2);
        }
        Checks.due(23, "NONE is none of STATUS", x.status(0), 5);
    }

    private static void note() {
        WhistleFlock x = new WhistleFlock();
        Checks.due(24, "note(0, 0, 0), nobody there", x.note(0, 0, 0), -2);
        x.whistle(0, 0);
        Checks.due(24, "note(0, 0, 0)", x.note(0, 0, 0), 1);
        Checks.due(24, "note(0, 99, 20)", x.note(0, 99, 20), 2);
        for (int bad : new int[] {-1, 100, Integer.MIN_VALUE, Integer.MAX_VALUE}) {
            Checks.due(24, "note(0, " + bad + ", 0)", x.note(0, bad, 0), -2);
        }
        for (int bad : new int[] {-1, 21, Integer.MIN_VALUE, Integer.MAX_VALUE}) {
            Checks.due(24, "note(0, 0, " + bad + ")", x.note(0, 0, bad), -2);
        }
        for (int i : NOT_ONE) {
            Checks.due(24, "note(" + i + ", 0, 0)", x.note(i, 0, 0), -2);
        }
        for (int many = 3; many <= 6; many++) {
            Checks.due(24, "note " + many, x.note(0, 1, 1), many);
        }
        Checks.due(24, "note, a 7th", x.note(0, 1, 1), -4);
        Checks.due(24, "note, a 7th, in no step", x.note(0, 100, 1), -2);
        Checks.due(24, "count(6)", x.count(6), 6);
        Checks.due(24, "status(2)", x.status(2), 1);
    }

    private static void mark() {
        WhistleFlock x = new WhistleFlock();
        Checks.due(25, "mark(0, 0, 0), nobody there", x.mark(0, 0, 0), -2);
        x.sheep(0, 0);
        Checks.due(25, "mark(0, 0, 0)", x.mark(0, 0, 0), 1);
        Checks.due(25, "mark(0, 8, 9)", x.mark(0, 8, 9), 2);
        for (int bad : new int[] {-1, 9, Integer.MIN_VALUE, Integer.MAX_VALUE}) {
            Checks.due(25, "mark(0, " + bad + ", 0)", x.mark(0, bad, 0), -2);
        }
        for (int bad : new int[] {-1, 10, Integer.MIN_VALUE, Integer.MAX_VALUE}) {
            Checks.due(25, "mark(0, 0, " + bad + ")", x.mark(0, 0, bad), -2);
        }
        for (int s : NOT_ONE) {
            Checks.due(25, "mark(" + s + ", 0, 0)", x.mark(s, 0, 0), -2);
        }
        for (int many = 3; many <= 6; many++) {
            Checks.due(25, "mark " + many, x.mark(0, 1, 1), many);
        }
        Checks.due(25, "mark, a 7th", x.mark(0, 1, 1), -4);
        Checks.due(25, "mark, a 7th, too far", x.mark(0, 9, 1), -2);
        Checks.due(25, "count(7)", x.count(7), 6);
        Checks.due(25, "status(2)", x.status(2), 1);
    }

    private static void forget() {
        WhistleFlock x = Checks.told("fell 0;whistle 0 0;sheep 0 0;");
        for (int n = 0; n < 3; n++) {
            x.seen(0, 0);
            x.note(0, 0, 1);
            x.note(0, 1, 1);
            x.mark(0, 0, 1);
        }
        x.mark(0, 1, 1);
        Checks.due(26, "forget(-1)", x.forget(-1), -2);
        Checks.due(26, "forget(3)", x.forget(3), -2);
        Checks.due(26, "forget(0)", x.forget(0), 3);
        Checks.due(26, "the others stay", 100 * x.count(5) + 10 * x.count(6) + x.count(7), 64);
        Checks.due(26, "forget(1)", x.forget(1), 6);
        Checks.due(26, "the others stay", 100 * x.count(5) + 10 * x.count(6) + x.count(7), 4);
        Checks.due(26, "forget(2)", x.forget(2), 4);
        Checks.due(26, "none stay", 100 * x.count(5) + 10 * x.count(6) + x.count(7), 0);
        for (int what = 0; what < 3; what++) {
            Checks.due(26, "forget(" + what + ") of none", x.forget(what), 0);
        }
    }

    private static void is() {
        WhistleFlock x = Checks.told("fell 0;whistle 3 0;whistle 0 0;");
        Checks.due(27, "is(0), no notes", x.is(0), 63);
        int[][] notes = {{0, 1, 17}, {0, 4, 8}, {0, 0, 36}, {0, 2, 2}, {0, 3, 0}, {1, 2, 26}, {1, 1, 37},
            {3, 0, 36}, {21, 2, 26}, {21, 1, 33}, {20, 2, 34}, {20, 4, 8}, {99, 20, 0}, {99, 0, 4}, {99, 2, 26}};
        for (int[] row : notes) {
            x.note(0, row[0], row[1]);
            Checks.due(27, "is(0), " + row[1] + " in step " + row[0], x.is(0), row[2]);
            Checks.due(27, "is(1), no notes of it", x.is(1), 63);
            x.forget(1);
        }
        x.note(0, 0, 1);
        x.note(1, 0, 4);
        x.note(0, 1, 2);
        Checks.due(27, "is(0) by two notes", x.is(0), 16);
        Checks.due(27, "is(1) by one note", x.is(1), 8);
        x.note(0, 1, 1);
        Checks.due(27, "is(0), no kind", x.is(0), 0);
        for (int i : new int[] {-1, 2, Integer.MIN_VALUE, Integer.MAX_VALUE}) {
            Checks.due(27, "is(" + i + ")", x.is(i), -2);
        }
    }

    private static void look() {
        WhistleFlock x = Checks.told("fell 0;whistle 3 0;whistle 0 0;");
        Checks.due(28, "look(0), no notes", x.look(0), 0);
        x.note(0, 0, 1);
        Checks.due(28, "look(0), a plain one or a kettle", x.look(0), 1);
        Checks.due(28, "look(1), no notes of it", x.look(1), 0);
        x.forget(1);
        x.note(0, 0, 0);
        Checks.due(28, "look(0), a lip or an old one", x.look(0), 20);
        x.note(0, 20, 2);
        Checks.due(28, "look(0), one kind", x.look(0), 0);
        x.note(0, 20, 1);
        Checks.due(28, "look(0), no kind", x.look(0), -1);
        for (int i : new int[] {-1, 2, Integer.MIN_VALUE, Integer.MAX_VALUE}) {
            Checks.due(28, "look(" + i + ")", x.look(i), -2);
        }
        Checks.due(28, "NONE is none of STATUS", x.status(0), 4);
    }

    private static void kinds() {
        WhistleFlock x = Checks.told("fell 0;sheep 3 0;sheep 0 0;");
        Checks.due(29, "kinds(0), no marks", x.kinds(0), 63);
        int[][] marks = {{0, 1, 5}, {0, 3, 42}, {0, 2, 16}, {0, 0, 0}, {1, 1, 11}, {1, 2, 16}, {1, 3, 32}, {1, 0, 4},
            {2, 0, 7}, {2, 1, 24}, {2, 2, 32}, {3, 0, 55}, {3, 1, 8}, {4, 0, 63}, {4, 1, 0}, {8, 0, 63}, {8, 9, 0}};
        for (int[] row : marks) {
            x.mark(0, row[0], row[1]);
            Checks.due(29, "kinds(0), " + row[1] + " by " + row[0], x.kinds(0), row[2]);
            Checks.due(29, "kinds(1), no marks of it", x.kinds(1), 63);
            x.forget(2);
        }
        x.mark(0, 0, 3);
        x.mark(1, 1, 0);
        x.mark(0, 1, 1);
        Checks.due(29, "kinds(0) by two marks", x.kinds(0), 10);
        Checks.due(29, "kinds(1) by one mark", x.kinds(1), 4);
        x.mark(0, 8, 1);
        Checks.due(29, "kinds(0), no kind", x.kinds(0), 0);
        for (int s : new int[] {-1, 2, Integer.MIN_VALUE, Integer.MAX_VALUE}) {
            Checks.due(29, "kinds(" + s + ")", x.kinds(s), -2);
        }
    }

    private static void ask() {
        WhistleFlock x = Checks.told("fell 0;sheep 3 0;sheep 0 0;");
        Checks.due(30, "ask(0), no marks", x.ask(0), 0);
        x.mark(0, 0, 1);
        Checks.due(30, "ask(0), a ewe or a ram", x.ask(0), 1);
        Checks.due(30, "ask(1), no marks of it", x.ask(1), 0);
        x.forget(2);
        x.mark(0, 0, 3);
        x.mark(0, 1, 1);
        Checks.due(30, "ask(0), a lamb or a tourist", x.ask(0), 2);
        x.mark(0, 2, 1);
        Checks.due(30, "ask(0), one kind", x.ask(0), 0);
        x.mark(0, 2, 2);
        Checks.due(30, "ask(0), no kind", x.ask(0), -1);
        for (int s : new int[] {-1, 2, Integer.MIN_VALUE, Integer.MAX_VALUE}) {
            Checks.due(30, "ask(" + s + ")", x.ask(s), -2);
        }
        Checks.due(30, "NONE is none of STATUS", x.status(0), 4);
    }

    private static void rests(WhistleFlock x, int a, int b, int... pairs) {
        long before = x.digest();
        Checks.due(31, "shepherds(" + a + ", " + b + ", -1)", x.shepherds(a, b, -1), pairs.length);
        for (int k = 0; k < pairs.length; k++) {
            Checks.due(31, "shepherds(" + a + ", " + b + ", " + k + ")", x.shepherds(a, b, k), pairs[k]);
        }
        Checks.due(31, "shepherds behind the pairs", x.shepherds(a, b, pairs.length), -5);
        Checks.due(31, "shepherds far behind the pairs", x.shepherds(a, b, Integer.MAX_VALUE), -5);
        Checks.due(31, "nothing is changed by shepherds", x.digest(), before);
    }

    private static void shepherds() {
        rests(Checks.told("fell 0;whistle 0 3;whistle 0 24;"), 0, 1, 44);
        WhistleFlock one = Checks.told("fell 0;whistle 0 3;whistle 0 24;sheep 0 1;");
        rests(one, 0, 1, 34, 44);
        rests(one, 1, 0, 44);
        WhistleFlock two = Checks.told("fell 0;whistle 0 3;whistle 0 24;sheep 0 1;sheep 0 1;");
        rests(two, 0, 1, 34);
        Checks.due(31, "status(0)", two.status(0), 0);
        WhistleFlock away = Checks.told("fell 12;whistle 0 24;whistle 4 9;sheep 0 12;sheep 0 12;");
        rests(away, 0, 1, 43);
        rests(Checks.told("fell 1;whistle 0 16;whistle 0 24;sheep 0 6;sheep 0 6;"), 0, 1, 4);
        rests(Checks.told("fell 6;whistle 0 24;whistle 0 16;sheep 0 6;sheep 0 6;"), 0, 1, 40);
    }

    private static void shepherdsAreRefused() {
        WhistleFlock x = new WhistleFlock();
        Checks.due(31, "shepherds(0, 1, -1), nobody there", x.shepherds(0, 1, -1), -10);
        x.whistle(0, 0);
        x.whistle(0, 0);
        Checks.due(31, "shepherds(0, 0, -1)", x.shepherds(0, 0, -1), -10);
        Checks.due(31, "shepherds(1, 1, 0)", x.shepherds(1, 1, 0), -10);
        Checks.due(31, "shepherds(0, 1, -2)", x.shepherds(0, 1, -2), -10);
        Checks.due(31, "shepherds(0, 1, least)", x.shepherds(0, 1, Integer.MIN_VALUE), -10);
        for (int bad : new int[] {-1, 2, Integer.MIN_VALUE, Integer.MAX_VALUE}) {
            Checks.due(31, "shepherds(" + bad + ", 0, -1)", x.shepherds(bad, 0, -1), -10);
            Checks.due(31, "shepherds(0, " + bad + ", -1)", x.shepherds(0, bad, -1), -10);
        }
        Checks.due(31, "status(0)", x.status(0), 13);
    }

    private static void hears(WhistleFlock x, int d, int e, int c, int above, int below) {
        String call = "misheard(0, 0, " + d + ", " + e + ", " + c + ")";
        Checks.due(32, call, x.misheard(0, 0, d, e, c), 1);
        Checks.due(32, "above behind " + call, x.part(0), above);
        Checks.due(32, "below behind " + call, x.part(1), below);
    }

    private static void misheard() {
        WhistleFlock x = Checks.told("fell 0;whistle 0 3;sheep 0 1;");
        hears(x, 3, 4, 0, 1, 1);
        hears(x, 3, 4, 10, 0, 1);
        hears(x, 3, 4, 5, 1, 2);
        hears(x, 3, 4, 3, 7, 10);
        hears(x, 3, 4, 1, 9, 10);
        hears(x, 2, 3, 1, 1, 10);
        hears(x, 4, 2, 5, 1, 2);
        hears(x, 4, 2, 3, 3, 10);
        hears(x, 0, 3, 0, 1, 1);
        hears(x, 2, 2, 5, 1, 2);
        hears(x, 2, 2, 3, 3, 10);
        hears(x, 0, 1, 4, 0, 1);
        Checks.due(32, "nobody has called", x.count(2), 0);
        Checks.due(32, "the sheep stays", x.about(0, 1), 1);
        WhistleFlock far = Checks.told("fell 0;whistle 0 24;whistle 0 3;sheep 0 24;sheep 0 1;");
        Checks.due(32, "misheard(1, 1, 3, 4, 3)", far.misheard(1, 1, 3, 4, 3), 1);
        Checks.due(32, "part(0)", far.part(0), 7);
        Checks.due(32, "misheard(0, 1, 3, 4, 3)", far.misheard(0, 1, 3, 4, 3), 1);
        Checks.due(32, "part(0)", far.part(0), 0);
        WhistleFlock two = Checks.told("fell 0;whistle 0 4;sheep 0 2;");
        hears(two, 2, 2, 5, 1, 4);
        hears(two, 2, 2, 3, 9, 100);
        hears(two, 3, 3, 1, 81, 100);
        WhistleFlock kettle = Checks.told("fell 4;whistle 4 0;sheep 2 3;");
        hears(kettle, 1, 1, 0, 1, 1);
        hears(kettle, 1, 4, 0, 0, 1);
        WhistleFlock lip = Checks.told("fell 4;whistle 2 2;sheep 2 3;");
        hears(lip, 1, 4, 0, 0, 1);
        hears(lip, 4, 1, 0, 1, 1);
    }

    private static void misheardIsRefused() {
        WhistleFlock x = new WhistleFlock();
        Checks.due(32, "misheard(0, 0, 0, 0, 0), nobody there", x.misheard(0, 0, 0, 0, 0), -2);
        x.whistle(0, 3);
        Checks.due(32, "misheard(0, 0, 0, 0, 0), no sheep", x.misheard(0, 0, 0, 0, 0), -2);
        x.sheep(0, 1);
        x.misheard(0, 0, 3, 4, 3);
        for (int bad : NOT_ONE) {
            Checks.due(32, "misheard(" + bad + ", 0, 0, 0, 0)", x.misheard(bad, 0, 0, 0, 0), -2);
            Checks.due(32, "misheard(0, " + bad + ", 0, 0, 0)", x.misheard(0, bad, 0, 0, 0), -2);
        }
        for (int bad : NO_CALLS) {
            Checks.due(32, "misheard(0, 0, " + bad + ", 0, 0)", x.misheard(0, 0, bad, 0, 0), -2);
            Checks.due(32, "misheard(0, 0, 0, " + bad + ", 0)", x.misheard(0, 0, 0, bad, 0), -2);
        }
        for (int bad : new int[] {-1, 11, Integer.MIN_VALUE, Integer.MAX_VALUE}) {
            Checks.due(32, "misheard(0, 0, 0, 0, " + bad + ")", x.misheard(0, 0, 0, 0, bad), -2);
        }
        Checks.due(32, "THE FRACTION stays", 100 * x.part(0) + x.part(1), 710);
        Checks.due(32, "status(0)", x.status(0), 24);
    }

    private static void winters() {
        WhistleFlock x = Checks.told("fell 0;whistle 0 7;sheep 0 1;");
        long before = x.digest();
        Checks.due(33, "winters(0, 0)", x.winters(0, 0), 0);
        Checks.due(33, "winters(0, 1)", x.winters(0, 1), 1);
        Checks.due(33, "winters(1, 1)", x.winters(1, 1), 0);
        Checks.due(33, "winters(999999, 60) is an answer", x.winters(999999, 60) >= 0 ? 1 : 0, 1);
        Checks.due(33, "nothing is changed by winters", x.digest(), before);
        for (int bad : new int[] {-1, 1000000, Integer.MIN_VALUE, Integer.MAX_VALUE}) {
            Checks.due(33, "winters(" + bad + ", 0)", x.winters(bad, 0), -2);
        }
        for (int bad : new int[] {-1, 61, Integer.MIN_VALUE, Integer.MAX_VALUE}) {
            Checks.due(33, "winters(0, " + bad + ")", x.winters(0, bad), -2);
        }
        Checks.due(33, "status(0)", x.status(0), 8);
        WhistleFlock none = Checks.told("fell 3;sheep 0 3;sheep 5 3;");
        Checks.due(33, "winters(5, 60), no whistle", none.winters(5, 60), 2);
        WhistleFlock lip = Checks.told("fell 22;whistle 2 7;sheep 0 17;");
        Checks.due(33, "winters(1, 2), none is called", lip.winters(1, 2), 0);
        Checks.due(33, "winters(1, 3), steps go by without a call", lip.winters(1, 3), 1);
    }
}
