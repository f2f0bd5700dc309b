/** Promises 1 to 8: a new object, and how a fell comes to be. */
final class FellTests {
    private static final int[] NO_CELLS = {-1, 25, Integer.MIN_VALUE, Integer.MAX_VALUE};
    private static final int[] NO_KINDS = {-1, 6, Integer.MIN_VALUE, Integer.MAX_VALUE};

    private FellTests() {
    }

    static void run() {
        newObject();
        fell();
        whistle();
        sheep();
        fold();
        type();
        clear();
        readTakes();
        readPlaces();
        readKeeps();
        readFaults();
    }

    private static void newObject() {
        WhistleFlock x = new WhistleFlock();
        for (int what = 0; what <= 9; what++) {
            Checks.due(1, "count(" + what + ")", x.count(what), 0);
        }
        Checks.due(1, "part(0)", x.part(0), 0);
        Checks.due(1, "part(1)", x.part(1), 1);
        for (int what = 0; what <= 2; what++) {
            Checks.due(1, "status(" + what + ")", x.status(what), 0);
        }
        Checks.due(1, "folded()", x.folded(), 0);
        Checks.due(1, "whose(-1)", x.whose(-1), 0);
        Checks.due(1, "undo()", x.undo(), -3);
        Checks.due(1, "from(0)", x.from(0), -3);
        Checks.due(1, "from(1)", x.from(1), -3);
        Checks.due(1, "of(0, 0)", x.of(0, 0), -2);
        Checks.due(1, "about(0, 0)", x.about(0, 0), -2);
        Checks.due(1, "clear()", x.clear(), 0);
        WhistleFlock other = new WhistleFlock();
        other.sheep(0, 0);
        Checks.due(1, "another object has its own sheep", x.count(0), 0);
    }

    private static void fell() {
        WhistleFlock x = new WhistleFlock();
        Checks.due(2, "fell(12)", x.fell(12), 0);
        Checks.due(2, "count(3)", x.count(3), 12);
        Checks.due(2, "fell(12) again", x.fell(12), 0);
        x.whistle(0, 5);
        x.sheep(0, 12);
        x.sheep(1, 4);
        x.steps(7);
        x.seen(0, 1);
        x.note(0, 1, 1);
        x.mark(0, 1, 1);
        x.image(1);
        x.type('a');
        x.misheard(0, 0, 4, 4, 0);
        x.fold(12);
        for (int c : NO_CELLS) {
            long before = x.digest();
            Checks.due(2, "fell(" + c + ")", x.fell(c), -2);
            Checks.due(2, "digest behind a refused fell", x.digest(), before);
        }
        Checks.due(2, "fell(24)", x.fell(24), 2);
        int[] counts = {0, 0, 0, 24, 0, 0, 0, 0, 0, 1};
        for (int what = 0; what < counts.length; what++) {
            Checks.due(2, "count(" + what + ")", x.count(what), counts[what]);
        }
        Checks.due(2, "THE FRACTION stays: above", x.part(0), 1);
        Checks.due(2, "STATUS stays: BAD", x.status(0), 4);
        Checks.due(2, "STATUS stays: NO", x.status(1), 1);
        Checks.due(2, "undo()", x.undo(), -3);
        Checks.due(2, "IMAGES stay: from(1)", x.from(1), 1);
        Checks.due(2, "count(0) from the image", x.count(0), 2);
        Checks.due(2, "fell(0)", x.fell(0), 2);
    }

    private static void whistle() {
        WhistleFlock x = new WhistleFlock();
        Checks.due(3, "whistle(0, 0)", x.whistle(0, 0), 0);
        Checks.due(3, "whistle(5, 24)", x.whistle(5, 24), 1);
        for (int bad : NO_KINDS) {
            Checks.due(3, "whistle(" + bad + ", 0)", x.whistle(bad, 0), -2);
        }
        for (int bad : NO_CELLS) {
            Checks.due(3, "whistle(0, " + bad + ")", x.whistle(0, bad), -2);
        }
        Checks.due(3, "count(1)", x.count(1), 2);
        Checks.due(3, "whistle(3, 0)", x.whistle(3, 0), 2);
        Checks.due(3, "whistle(3, 0), a 4th", x.whistle(3, 0), -4);
        Checks.due(3, "whistle(6, 0), a 4th", x.whistle(6, 0), -2);
        Checks.due(3, "count(1)", x.count(1), 3);
        Checks.due(3, "of(1, 0)", x.of(1, 0), 5);
        Checks.due(3, "of(1, 1)", x.of(1, 1), 24);
        Checks.due(3, "status(2)", x.status(2), 1);
    }

    private static void sheep() {
        WhistleFlock x = new WhistleFlock();
        for (int s = 0; s < 7; s++) {
            for (int bad : NO_KINDS) {
                Checks.due(4, "sheep(" + bad + ", 0)", x.sheep(bad, 0), -2);
            }
            for (int bad : NO_CELLS) {
                Checks.due(4, "sheep(0, " + bad + ")", x.sheep(0, bad), -2);
            }
            Checks.due(4, "sheep " + s, x.sheep(s % 6, 24 - s), s);
        }
        Checks.due(4, "an 8th sheep", x.sheep(0, 0), -4);
        Checks.due(4, "an 8th sheep, no kind", x.sheep(6, 0), -2);
        Checks.due(4, "an 8th sheep, no cell", x.sheep(0, 25), -2);
        Checks.due(4, "count(0)", x.count(0), 7);
        Checks.due(4, "about(6, 0)", x.about(6, 0), 0);
        Checks.due(4, "about(6, 1)", x.about(6, 1), 18);
        Checks.due(4, "status(2)", x.status(2), 1);
    }

    private static void fold() {
        WhistleFlock x = new WhistleFlock();
        Checks.due(5, "fold(0), it is so", x.fold(0), -3);
        Checks.due(5, "fold(24)", x.fold(24), 0);
        x.sheep(0, 7);
        x.steps(2);
        Checks.due(5, "fold(24), it is so", x.fold(24), -3);
        Checks.due(5, "a refused one leaves what may be undone", x.count(8), 1);
        for (int c : NO_CELLS) {
            Checks.due(5, "fold(" + c + ")", x.fold(c), -2);
        }
        Checks.due(5, "fold(7)", x.fold(7), 24);
        Checks.due(5, "the sheep are still there", x.count(0), 1);
        Checks.due(5, "the step is still it", x.count(2), 2);
        Checks.due(5, "folded()", x.folded(), 1);
        Checks.due(5, "nothing to undo", x.count(8), 0);
        Checks.due(5, "count(3)", x.count(3), 7);
        Checks.due(5, "status(1)", x.status(1), 2);
    }

    private static void type() {
        WhistleFlock x = new WhistleFlock();
        Checks.due(6, "type(0)", x.type(0), 1);
        Checks.due(6, "type(127)", x.type(127), 2);
        Checks.due(6, "type(-1)", x.type(-1), -2);
        Checks.due(6, "type(128)", x.type(128), -2);
        Checks.due(6, "type(least)", x.type(Integer.MIN_VALUE), -2);
        for (int many = 3; many <= 150; many++) {
            Checks.due(6, "type, byte " + many, x.type(' '), many);
        }
        Checks.due(6, "type, byte 151", x.type(' '), -4);
        Checks.due(6, "type(128), byte 151", x.type(128), -2);
        Checks.due(6, "count(9)", x.count(9), 150);
        Checks.due(6, "status(2)", x.status(2), 1);
    }

    private static void clear() {
        WhistleFlock x = new WhistleFlock();
        Checks.due(7, "clear() of none", x.clear(), 0);
        Checks.write(x, "fell 7;");
        Checks.due(7, "clear()", x.clear(), 7);
        Checks.due(7, "count(9)", x.count(9), 0);
        Checks.due(7, "read() behind it", x.read(), -10);
        Checks.due(7, "type behind it", x.type('f'), 1);
    }

    private static void readTakes() {
        takes("fell 12;", 1);
        takes("fell12;", 1);
        takes("fell 00;", 1);
        takes("   fell   12  ;   ", 1);
        takes("fell 0;whistle5 24;sheep5 0;call0 4;steps1;", 5);
        takes("fell 0 ; whistle 0 0 ; call 0 0 ; steps 99 ; steps 09 ;", 5);
        takes("fell 24;sheep 5 24;sheep 0 0;sheep 0 0;sheep 0 0;sheep 0 0;sheep 0 0;sheep 0 0;", 8);
        takes("fell 24;whistle 5 24;whistle 0 0;whistle 0 0;call 2 4;", 5);
    }

    private static void takes(String text, int items) {
        WhistleFlock x = new WhistleFlock();
        Checks.write(x, text);
        Checks.due(8, "read() of " + text, x.read(), items);
        Checks.due(8, "THE TEXT stays: " + text, x.count(9), text.length());
        Checks.due(8, "read() again of " + text, x.read(), items);
    }

    private static void readPlaces() {
        WhistleFlock x = Checks.told("fell 13;whistle 0 11;sheep 0 12;call 0 4;steps 2;sheep 1 0;");
        int[] counts = {2, 1, 3, 13, 1, 0, 0, 0, 0, 59};
        for (int what = 0; what < counts.length; what++) {
            Checks.due(8, "count(" + what + ")", x.count(what), counts[what]);
        }
        Checks.due(8, "of(0, 1)", x.of(0, 1), 11);
        Checks.due(8, "about(0, 1)", x.about(0, 1), 13);
        Checks.due(8, "about(1, 0)", x.about(1, 0), 1);
        Checks.due(8, "about(1, 1)", x.about(1, 1), 0);
        Checks.due(8, "undo()", x.undo(), -3);
        WhistleFlock stood = Checks.told("fell 0;whistle 0 12;sheep 0 13;steps 9;");
        Checks.due(8, "nobody calls while steps go by", stood.about(0, 1), 13);
        Checks.due(8, "the whistle stands", stood.of(0, 1), 12);
    }

    private static void readKeeps() {
        WhistleFlock x = new WhistleFlock();
        x.whistle(0, 3);
        x.sheep(0, 1);
        x.misheard(0, 0, 3, 4, 3);
        x.image(0);
        x.seen(0, 1);
        x.note(0, 1, 1);
        x.mark(0, 1, 1);
        x.calls(0, 4);
        x.fell(25);
        Checks.write(x, "fell 9;x");
        long before = x.digest();
        Checks.due(8, "read() with a fault", x.read(), -17);
        Checks.due(8, "all stays", x.digest(), before);
        Checks.due(8, "a fault is none of STATUS: BAD", x.status(0), 1);
        Checks.due(8, "a fault is none of STATUS: NO", x.status(1), 0);
        x.clear();
        Checks.write(x, "fell 9;");
        Checks.due(8, "read()", x.read(), 1);
        int[] counts = {0, 0, 0, 9, 0, 0, 0, 0, 0, 7};
        for (int what = 0; what < counts.length; what++) {
            Checks.due(8, "count(" + what + ") behind it", x.count(what), counts[what]);
        }
        Checks.due(8, "THE FRACTION stays", 100 * x.part(0) + x.part(1), 710);
        Checks.due(8, "STATUS stays", x.status(0), 1);
        Checks.due(8, "IMAGES stay", x.from(0), 1);
        Checks.due(8, "count(0) from the image", x.count(0), 1);
    }

    private static void readFaults() {
        faults("", 0);
        faults("   ", 3);
        faults("fell", 4);
        faults("fell 0", 6);
        faults("fell 0  ", 8);
        faults("fell 0;whistle", 14);
        faults("fell 0;whistle 0", 16);
        faults("fell 0;whistle 0 0", 18);
        faults("fell 0;call", 11);
        faults("fell 0;steps 5", 14);
        faults("fell 25;", 5);
        faults("fell 99", 5);
        faults("fell 000;", 5);
        faults("fell   001;", 7);
        faults("fell 0;fell 1;", 7);
        faults("whistle 0 0;", 0);
        faults(" ;", 1);
        faults("7", 0);
        faults("fell 0;whistle 6 0;", 15);
        faults("fell 0;whistle 0 25;", 17);
        faults("fell 0;sheep 6 0;", 13);
        faults("fell 0;sheep 0 25;", 15);
        faults("fell 0;call 0 0;", 12);
        faults("fell 0;whistle 0 0;call 1 0;", 24);
        faults("fell 0;whistle 0 0;call 0 5;", 26);
        faults("fell 0;steps 0;", 13);
        faults("fell 0;steps 00;", 13);
        faults("fell 0;steps 100;", 13);
        faults("fell 0;steps 100", 13);
        faults("fell 0;steps 5 5;", 15);
        faults("fell 0 0;", 7);
        faults("fell 0;;", 7);
        faults("fell 0 1234;", 7);
        faults("fell 0;whistle;", 14);
        faults("fell 0;whistle x", 15);
        faults("fel 0;", 0);
        faults("fells 0;", 0);
        faults("f", 0);
        faults("Fell 0;", 0);
        faults("fellX0;", 4);
        faults("fell 0:", 6);
        faults("fell 0X", 6);
        faults("fell 0;\n", 7);
        faults("fell\t0;", 4);
        faults("fell -1;", 5);
        faults("fell 0;callsteps 1;", 7);
        faults("fell 0;`", 7);
        faults("fell 0;{", 7);
        faults("fell /;", 5);
        faults("fell " + (char) 0 + ";", 5);
        faults("fell " + (char) 127 + ";", 5);
        faults("fell 0;whistle 0 0;whistle 0 0;whistle 0 0;whistle 0 0;", 43);
        faults("fell 0;whistle 0 0;whistle 0 0;whistle 0 0; whistle", 44);
        faults("fell 0;sheep 0 0;sheep 0 0;sheep 0 0;sheep 0 0;sheep 0 0;sheep 0 0;sheep 0 0;sheep", 77);
    }

    private static void faults(String text, int place) {
        WhistleFlock x = new WhistleFlock();
        x.fell(3);
        x.sheep(2, 3);
        Checks.write(x, text);
        long before = x.digest();
        Checks.due(8, "read() of " + text, x.read(), -10 - place);
        Checks.due(8, "all stays behind " + text, x.digest(), before);
    }
}
