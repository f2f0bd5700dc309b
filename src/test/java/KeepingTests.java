/** Promises 34 to 39: THE FRACTION, images, what was refused, counts, the digest. */
final class KeepingTests {
    private static final String FULL_FELL = "fell 12;whistle 3 11;whistle 4 0;sheep 1 12;sheep 5 12;sheep 0 24;steps 7;";

    private KeepingTests() {
    }

    static void run() {
        part();
        image();
        imageKeepsAllThatMayBeUndone();
        imagesAreTwo();
        from();
        statusOfBad();
        statusOfNoAndFull();
        statusIsReached();
        count();
        digestOfNone();
        digest();
    }

    private static void part() {
        WhistleFlock x = Checks.told("fell 0;whistle 0 3;sheep 0 1;");
        Checks.due(34, "part(0) at first", x.part(0), 0);
        Checks.due(34, "part(1) at first", x.part(1), 1);
        x.misheard(0, 0, 3, 4, 3);
        Checks.due(34, "part(0)", x.part(0), 7);
        Checks.due(34, "part(1)", x.part(1), 10);
        x.misheard(0, 0, 3, 4, 11);
        Checks.due(34, "part(0) behind what is refused", x.part(0), 7);
        x.clear();
        x.steps(1);
        x.undo();
        Checks.due(34, "part(1) behind an undo", x.part(1), 10);
        for (int what : new int[] {-1, 2, Integer.MIN_VALUE, Integer.MAX_VALUE}) {
            Checks.due(34, "part(" + what + ")", x.part(what), -2);
        }
        Checks.due(34, "status(0)", x.status(0), 5);
    }

    private static WhistleFlock busy() {
        WhistleFlock x = Checks.told(FULL_FELL);
        x.seen(0, 3);
        x.seen(1, 4);
        x.note(1, 2, 3);
        x.mark(2, 4, 5);
        x.mark(0, 1, 2);
        x.steps(2);
        x.calls(0, 1);
        return x;
    }

    private static void image() {
        WhistleFlock x = busy();
        Checks.due(35, "image(0)", x.image(0), 1);
        long kept = x.digest();
        x.undo();
        x.undo();
        x.calls(1, 2);
        x.seen(0, 0);
        x.forget(1);
        x.forget(2);
        x.mark(0, 0, 0);
        x.fold(3);
        x.whistle(0, 0);
        x.sheep(4, 4);
        Checks.due(36, "from(0)", x.from(0), 1);
        Checks.due(36, "digest behind from(0)", x.digest(), kept);
        Checks.due(36, "what may be undone is kept", x.count(8), 2);
        Checks.due(36, "undo() behind from(0)", x.undo(), 9);
        Checks.due(36, "undo() behind from(0)", x.undo(), 7);
        Checks.due(36, "undo() behind from(0)", x.undo(), -3);
        x.fell(0);
        Checks.due(36, "from(0) behind a fell", x.from(0), 1);
        Checks.due(36, "digest behind a second from(0)", x.digest(), kept);
        x.from(0);
        x.calls(0, 2);
        x.seen(0, 9);
        x.from(0);
        Checks.due(36, "an image is not changed by what comes behind it", x.digest(), kept);
        for (int i : new int[] {-1, 2, Integer.MIN_VALUE, Integer.MAX_VALUE}) {
            Checks.due(35, "image(" + i + ")", x.image(i), -2);
            Checks.due(36, "from(" + i + ")", x.from(i), -2);
        }
        Checks.due(36, "status(0)", x.status(0), 8);
    }

    private static void imageKeepsAllThatMayBeUndone() {
        WhistleFlock x = Checks.told("fell 0;whistle 0 0;sheep 3 12;");
        int[] calls = {1, 2, 1, 2, 1, 2, 1, 2};
        long[] digests = new long[calls.length];
        for (int n = 0; n < calls.length; n++) {
            digests[n] = x.digest();
            x.calls(0, calls[n]);
        }
        x.image(0);
        x.fell(3);
        x.whistle(1, 24);
        x.sheep(1, 4);
        for (int n = 0; n < calls.length; n++) {
            x.steps(90);
        }
        x.from(0);
        for (int n = calls.length - 1; n >= 0; n--) {
            Checks.due(36, "undo() behind from(0)", x.undo(), n);
            Checks.due(36, "digest behind it", x.digest(), digests[n]);
        }
    }

    private static void imagesAreTwo() {
        WhistleFlock x = new WhistleFlock();
        x.sheep(0, 1);
        x.image(0);
        x.sheep(0, 2);
        Checks.due(35, "image(1)", x.image(1), 1);
        x.sheep(0, 3);
        x.from(0);
        Checks.due(35, "count(0) from the image 0", x.count(0), 1);
        x.from(1);
        Checks.due(35, "count(0) from the image 1", x.count(0), 2);
        x.fell(7);
        Checks.due(35, "image(1) once more", x.image(1), 1);
        x.from(0);
        x.from(1);
        Checks.due(35, "the later image is kept", x.count(3), 7);
    }

    private static void from() {
        WhistleFlock x = busy();
        Checks.due(36, "from(0), none was kept", x.from(0), -3);
        x.image(1);
        Checks.due(36, "from(0), none was kept there", x.from(0), -3);
        x.clear();
        Checks.write(x, "fell 1;");
        x.misheard(0, 0, 0, 0, 0);
        x.fell(12);
        x.whistle(0, 24);
        x.sheep(0, 12);
        x.misheard(0, 0, 4, 4, 0);
        Checks.due(36, "part(0)", x.part(0), 1);
        Checks.due(36, "from(1)", x.from(1), 1);
        Checks.due(36, "THE TEXT stays", x.count(9), 7);
        Checks.due(36, "THE FRACTION stays", x.part(0), 1);
        Checks.due(36, "STATUS stays", x.status(1), 2);
        Checks.due(36, "the step is the image's", x.count(2), 10);
    }

    private static void statusOfBad() {
        WhistleFlock x = new WhistleFlock();
        long before = x.digest();
        long[] answers = {
            x.fell(25), x.whistle(6, 0), x.sheep(0, 25), x.fold(-1), x.type(128), x.calls(0, 0), x.steps(0),
            x.of(0, 0), x.about(0, 0), x.goes(0, 0), x.gives(0, 0, 0), x.near(0, 0), x.gather(0, 0), x.seen(0, 0),
            x.which(0), x.tell(0), x.note(0, 0, 0), x.mark(0, 0, 0), x.forget(3), x.is(0), x.look(0), x.kinds(0),
            x.ask(0), x.misheard(0, 0, 0, 0, 0), x.winters(-1, 0), x.part(2), x.image(2), x.from(2), x.count(10)
        };
        for (int n = 0; n < answers.length; n++) {
            Checks.due(37, "refused call " + n, answers[n], -2);
        }
        Checks.due(37, "status(0) behind them", x.status(0), answers.length);
        Checks.due(37, "drive", x.drive(0, 0, 0, -2), -10);
        Checks.due(37, "whose", x.whose(-2), -10);
        Checks.due(37, "shepherds", x.shepherds(0, 1, -1), -10);
        Checks.due(37, "status(3)", x.status(3), -1);
        Checks.due(37, "status(-1)", x.status(-1), -1);
        Checks.due(37, "status(0) behind all", x.status(0), answers.length + 5);
        Checks.due(37, "status(1)", x.status(1), 0);
        Checks.due(37, "status(2)", x.status(2), 0);
        Checks.due(37, "digest behind all", x.digest(), before);
    }

    private static void statusOfNoAndFull() {
        WhistleFlock x = new WhistleFlock();
        x.undo();
        x.from(0);
        x.fold(0);
        Checks.due(37, "status(1)", x.status(1), 3);
        for (int n = 0; n < 8; n++) {
            x.whistle(0, 0);
            x.sheep(0, 0);
        }
        Checks.due(37, "status(2) behind whistles and sheep", x.status(2), 6);
        for (int n = 0; n < 7; n++) {
            x.seen(0, 0);
            x.note(0, 0, 0);
            x.mark(0, 0, 0);
        }
        Checks.due(37, "status(2) behind what was seen", x.status(2), 10);
        for (int n = 0; n < 152; n++) {
            x.type(' ');
        }
        Checks.due(37, "status(2) behind a text", x.status(2), 12);
        x.read();
        x.drive(0, 0, 24, -2);
        x.drive(0, 0, 0, 9);
        x.whose(99);
        x.tell(0);
        x.look(0);
        x.ask(0);
        x.shepherds(0, 1, 99);
        Checks.due(37, "status(0), answers told otherwise are none", x.status(0), 0);
        Checks.due(37, "status(1), answers told otherwise are none", x.status(1), 3);
        Checks.due(37, "status(2), answers told otherwise are none", x.status(2), 12);
    }

    private static void statusIsReached() {
        WhistleFlock x = new WhistleFlock();
        for (int n = 1; n <= 400; n++) {
            x.fell(25);
        }
        Checks.due(37, "status(0) behind many", x.status(0), 400);
        x.fell(3);
        Checks.due(37, "status(0) behind a fell", x.status(0), 400);
    }

    private static void count() {
        WhistleFlock x = busy();
        x.fold(24);
        x.steps(1);
        int[] counts = {3, 2, 11, 24, 1, 2, 1, 2, 1, FULL_FELL.length()};
        for (int what = 0; what < counts.length; what++) {
            Checks.due(38, "count(" + what + ")", x.count(what), counts[what]);
        }
        WhistleFlock all = Checks.told("fell 7;sheep 0 7;sheep 0 6;sheep 0 7;sheep 0 7;");
        Checks.due(38, "count(4), how many are folded", all.count(4), 3);
        Checks.due(16, "folded(), which are folded", all.folded(), 13);
        for (int what : new int[] {-1, 10, Integer.MIN_VALUE, Integer.MAX_VALUE}) {
            Checks.due(38, "count(" + what + ")", x.count(what), -2);
        }
        Checks.due(38, "status(0)", x.status(0), 4);
    }

    private static long chained(long first, long... values) {
        long h = first;
        for (long value : values) {
            h = 31 * h + value;
        }
        return h;
    }

    private static void digestOfNone() {
        long due = chained(1669, 0, 0, 0, 0, 0, 0, 0, 0, 0, 0, 0, 1);
        Checks.due(39, "digest() of a new object", new WhistleFlock().digest(), due);
    }

    private static void digest() {
        WhistleFlock x = Checks.told("fell 0;whistle 0 3;whistle 5 24;sheep 0 1;sheep 2 0;sheep 3 0;steps 6;");
        x.misheard(0, 0, 3, 4, 3);
        x.seen(0, 3);
        x.seen(2, 24);
        x.note(1, 20, 19);
        x.mark(1, 7, 6);
        x.mark(2, 0, 3);
        x.calls(1, 4);
        long status = x.digest();
        x.fell(25);
        Checks.due(39, "STATUS is none of digest()", x.digest(), status);
        long due = chained(1669, 3, 2, 7, 0, 2, 2, 1, 2, 1, 70);
        due = chained(due, 0, 3, 5, 24);
        due = chained(due, 0, 1, 2, 0, 3, 0);
        due = chained(due, 0, 3, 2, 24);
        due = chained(due, 1, 20, 19);
        due = chained(due, 1, 7, 6, 2, 0, 3);
        due = chained(due, 7, 10);
        Checks.due(39, "digest()", x.digest(), due);
        Checks.due(39, "digest() again", x.digest(), due);
    }
}
