import java.math.BigInteger;

/** THE FRACTION, images, STATUS, counts, the digest, and how long an object is used. */
final class KeptSentences {
    private static final int BAD = WhistleFlock.BAD, NO = WhistleFlock.NO, FULL = WhistleFlock.FULL;
    private static final int MOST_CALLS = 512;

    private KeptSentences() {
    }

    static void run() {
        fraction();
        image();
        imagesKeepAllButThese();
        imagesAreApart();
        imagesKeepWhatMayBeUndone();
        fromIsRefused();
        status();
        statusOfEach();
        statusByOthers();
        othersCountAsNone();
        firstOfThem();
        counts();
        digest();
        digestOfAll();
        lastOfManyCalls();
        dearCalls();
        laterCalls();
    }

    private static void fraction() {
        Sentence s = Sentence.ofTerms(34, "THE FRACTION is 0 by 1 at first; lowest terms, below above 0.");
        Sentence.of(34, "THE FRACTION: above (0), below (1).");
        s.onlyTold(Scenes::nobody, "above at first", x -> x.part(0), 0);
        s.onlyTold(Scenes::nobody, "below at first", x -> x.part(1), 1);
        for (int c = 0; c <= 10; c++) {
            for (int pair = 0; pair < 25; pair++) {
                WhistleFlock x = Checks.told("fell 0;whistle 0 4;sheep 0 2;");
                x.misheard(0, 0, pair / 5, pair % 5, c);
                long above = x.part(0);
                long below = x.part(1);
                long common = BigInteger.valueOf(above).gcd(BigInteger.valueOf(below)).longValue();
                s.due("lowest terms, c = " + c, common, 1);
                s.due("within 0 and 1, c = " + c, above >= 0 && above <= below && below >= 1 ? 1 : 0, 1);
            }
        }
        WhistleFlock x = Checks.told("fell 0;whistle 0 4;sheep 0 2;");
        x.misheard(0, 0, 3, 3, 5);
        s.due("1 by 4, above", x.part(0), 1);
        s.due("1 by 4, below", x.part(1), 4);
        x.misheard(0, 0, 0, 0, 0);
        s.due("0 by 1 once more, above", x.part(0), 0);
        s.due("0 by 1 once more, below", x.part(1), 1);
    }

    private static void image() {
        Sentence s = Sentence.ofTerms(35, "IMAGES 0, 1 keep all but them, THE TEXT, THE FRACTION and STATUS;");
        Sentence.of(35, "An IMAGE is kept: 1.");
        Sentence.of(36, "It goes on from an IMAGE: 1.");
        for (int n = 0; n < 2; n++) {
            int i = n;
            WhistleFlock x = Scenes.full();
            s.done(x, "image(" + i + ")", y -> y.image(i), 1);
            long kept = x.digest();
            changeAll(x);
            s.done(x, "from(" + i + ")", y -> y.from(i), 1);
            s.due("all is as it was", x.digest(), kept);
            changeAll(x);
            x.fell(0);
            s.done(x, "from(" + i + ") once more", y -> y.from(i), 1);
            s.due("all is as it was", x.digest(), kept);
        }
        WhistleFlock nobody = new WhistleFlock();
        nobody.image(1);
        nobody.sheep(0, 0);
        nobody.fold(3);
        nobody.steps(9);
        nobody.from(1);
        s.due("an image of nobody", nobody.digest(), new WhistleFlock().digest());
    }

    /** All that an image keeps becomes another. */
    private static void changeAll(WhistleFlock x) {
        x.undo();
        x.undo();
        x.calls(0, 1);
        x.calls(2, 3);
        x.steps(99);
        for (int what = 0; what < 3; what++) {
            x.forget(what);
        }
        for (int n = 0; n < 6; n++) {
            x.seen(6 - n, 20 + n);
            x.note(2 - n % 3, 90 + n, 20 - n);
            x.mark(6 - n, 8 - n, n);
        }
        x.fold(13);
        x.fell(14);
        for (int n = 0; n < 7; n++) {
            x.whistle(n % 2, 20 - n);
            x.sheep(2, 10 + n);
        }
        x.steps(5);
    }

    private static void imagesKeepAllButThese() {
        Sentence s = Sentence.ofTerms(36, "all but them, THE TEXT, THE FRACTION and STATUS;");
        WhistleFlock x = Checks.told("fell 0;whistle 0 4;sheep 0 2;");
        x.image(0);
        x.misheard(0, 0, 3, 3, 5);
        x.clear();
        Checks.write(x, "fell 7;");
        x.fell(25);
        x.fold(0);
        x.image(1);
        s.due("from(0)", x.from(0), 1);
        s.due("THE TEXT stays", x.count(9), 7);
        s.due("THE FRACTION stays", 10 * x.part(0) + x.part(1), 14);
        s.due("STATUS stays, BAD", x.status(0), 1);
        s.due("STATUS stays, NO", x.status(1), 1);
        s.due("the other image stays", x.from(1), 1);
        s.due("read() of THE TEXT", x.read(), 1);
        s.due("the first image stays", x.from(0), 1);
        s.due("count(0)", x.count(0), 1);
    }

    private static void imagesAreApart() {
        Sentence s = Sentence.ofTerms(36, "IMAGES 0, 1 keep all but them");
        WhistleFlock x = new WhistleFlock();
        x.fell(1);
        x.image(0);
        x.fell(2);
        x.image(1);
        x.fell(3);
        x.from(0);
        s.due("of 0", x.count(3), 1);
        x.from(1);
        s.due("of 1", x.count(3), 2);
        x.fell(4);
        x.image(0);
        x.from(1);
        s.due("of 1, 0 being another", x.count(3), 2);
        x.from(0);
        s.due("of 0, the later one", x.count(3), 4);
    }

    private static void imagesKeepWhatMayBeUndone() {
        Sentence s = Sentence.ofTerms(36, "what may be undone they keep; it goes on from one.");
        WhistleFlock x = Checks.told("fell 0;whistle 0 0;sheep 3 12;");
        long first = x.digest();
        for (int n = 0; n < 9; n++) {
            x.calls(0, n % 2 == 0 ? 1 : 2);
        }
        x.image(1);
        changeAll(x);
        x.steps(70);
        x.from(1);
        s.due("count(8)", x.count(8), 8);
        for (int n = 8; n >= 1; n--) {
            s.due("undo()", x.undo(), n);
            s.due("count(8)", x.count(8), n - 1);
            s.due("the first whistle", x.of(0, 1), n / 2 * 5 + (n + 1) / 2);
        }
        s.due("undo()", x.undo(), NO);
        x.steps(3);
        s.due("steps behind it", x.count(2), 4);
        x.from(1);
        s.due("the image has all of them still", x.count(8), 8);
        x.undo();
        x.calls(0, 4);
        s.due("calls go on from it", x.count(2), 9);
        WhistleFlock few = Checks.told("fell 0;whistle 0 0;sheep 3 12;");
        few.calls(0, 1);
        few.image(0);
        few.undo();
        s.due("undone to the first", few.digest(), first);
        few.from(0);
        s.due("one may be undone", few.undo(), 0);
        s.due("undone to the first", few.digest(), first);
    }

    private static void fromIsRefused() {
        Sentence s = Sentence.of(36, "NO: none was kept.");
        s.refused(Scenes::nobody, "from(0)", x -> x.from(0), NO, Sentence.AS_NO);
        s.refused(Scenes::nobody, "from(1)", x -> x.from(1), NO, Sentence.AS_NO);
        s.refused(Scenes::some, "from(1), 0 was kept", x -> x.from(1), NO, Sentence.AS_NO);
        s.refused(Scenes::last, "from(0), 1 was kept", x -> x.from(0), NO, Sentence.AS_NO);
        s.done(Scenes.some(), "from(0), it was kept", x -> x.from(0), 1);
        s.done(Scenes.last(), "from(1), it was kept", x -> x.from(1), 1);
    }

    private static void status() {
        Sentence s = Sentence.ofTerms(37,
            "STATUS: how many calls were refused as BAD, NO, FULL (each answer told so below is such a one).");
        Sentence.of(37, "STATUS: BAD (0), NO (1), FULL (2).");
        WhistleFlock x = Scenes.full();
        long[] before = Sentence.status(x);
        for (int n = 1; n <= 30; n++) {
            x.fell(-n);
            if (n % 2 == 0) {
                x.fold(24);
            }
            if (n % 3 == 0) {
                x.sheep(0, 0);
            }
        }
        s.due("status(0)", x.status(0), before[0] + 30);
        s.due("status(1)", x.status(1), before[1] + 15);
        s.due("status(2)", x.status(2), before[2] + 10);
    }

    private static void statusOfEach() {
        Sentence s = Sentence.ofTerms(37, "(each answer told so below is such a one).");
        s.refused(Scenes::full, "whistle", x -> x.whistle(0, 0), FULL, Sentence.AS_FULL);
        s.refused(Scenes::full, "sheep", x -> x.sheep(0, 0), FULL, Sentence.AS_FULL);
        s.refused(Scenes::full, "type", x -> x.type(0), FULL, Sentence.AS_FULL);
        s.refused(Scenes::full, "seen", x -> x.seen(0, 0), FULL, Sentence.AS_FULL);
        s.refused(Scenes::full, "note", x -> x.note(0, 0, 0), FULL, Sentence.AS_FULL);
        s.refused(Scenes::full, "mark", x -> x.mark(0, 0, 0), FULL, Sentence.AS_FULL);
        s.refused(Scenes::full, "fold", x -> x.fold(24), NO, Sentence.AS_NO);
        s.refused(Scenes::last, "calls", x -> x.calls(0, 0), NO, Sentence.AS_NO);
        s.refused(Scenes::nobody, "undo", WhistleFlock::undo, NO, Sentence.AS_NO);
        s.refused(Scenes::nobody, "from", x -> x.from(0), NO, Sentence.AS_NO);
        s.refused(Scenes::full, "status", x -> x.status(3), -1, Sentence.AS_BAD);
        s.refused(Scenes::full, "status", x -> x.status(-1), -1, Sentence.AS_BAD);
        Sentence.of(37, "-1: another what (counts as BAD).");
    }

    private static void statusByOthers() {
        Sentence s = Sentence.ofTerms(37, "(where others are told they count as these).");
        s.refused(Scenes::full, "drive", x -> x.drive(0, 0, 0, -1), -10, Sentence.AS_BAD);
        s.refused(Scenes::full, "whose", x -> x.whose(-2), -10, Sentence.AS_BAD);
        s.refused(Scenes::full, "shepherds", x -> x.shepherds(1, 1, 0), -10, Sentence.AS_BAD);
        s.refused(Scenes::nobody, "drive, nobody there", x -> x.drive(0, 0, 0, -2), -10, Sentence.AS_BAD);
        s.refused(Scenes::nobody, "shepherds, nobody there", x -> x.shepherds(0, 1, -1), -10, Sentence.AS_BAD);
    }

    private static void othersCountAsNone() {
        Sentence s = Sentence.ofTerms(37, "refused as BAD, NO, FULL");
        s.onlyTold(Scenes::nobody, "read(), a fault", WhistleFlock::read, -10);
        s.onlyTold(Scenes::last, "drive, none", x -> x.drive(0, 0, 0, -2), -6);
        s.onlyTold(Scenes::some, "drive, not so many", x -> x.drive(0, 0, x.about(0, 1), 0), -5);
        s.onlyTold(Scenes::some, "whose, not so many", x -> x.whose(15), -5);
        s.onlyTold(Scenes::some, "shepherds, not so many", x -> x.shepherds(0, 1, 25), -5);
        WhistleFlock x = Checks.told("fell 0;whistle 0 0;sheep 0 0;");
        x.seen(0, 24);
        x.note(0, 0, 20);
        x.mark(0, 0, 9);
        s.done(x, "tell, no call", y -> y.tell(0), WhistleFlock.NONE);
        s.done(x, "look, no kind", y -> y.look(0), WhistleFlock.NONE);
        s.done(x, "ask, no kind", y -> y.ask(0), WhistleFlock.NONE);
    }

    private static void firstOfThem() {
        Sentence s = Sentence.ofTerms(37,
            "Refused, changing nothing but STATUS, the first of: BAD -2 a number is not as told; NO -3 as told;"
                + " FULL -4");
        s.refused(Scenes::full, "whistle(6, 0), a 4th", x -> x.whistle(6, 0), BAD, Sentence.AS_BAD);
        s.refused(Scenes::full, "whistle(0, 25), a 4th", x -> x.whistle(0, 25), BAD, Sentence.AS_BAD);
        s.refused(Scenes::full, "sheep(-1, 0), an 8th", x -> x.sheep(-1, 0), BAD, Sentence.AS_BAD);
        s.refused(Scenes::full, "sheep(0, -1), an 8th", x -> x.sheep(0, -1), BAD, Sentence.AS_BAD);
        s.refused(Scenes::full, "type(128), the 151st", x -> x.type(128), BAD, Sentence.AS_BAD);
        s.refused(Scenes::full, "seen(7, 0), a 6th", x -> x.seen(7, 0), BAD, Sentence.AS_BAD);
        s.refused(Scenes::full, "note(0, 100, 0), a 7th", x -> x.note(0, 100, 0), BAD, Sentence.AS_BAD);
        s.refused(Scenes::full, "mark(0, 0, 10), a 7th", x -> x.mark(0, 0, 10), BAD, Sentence.AS_BAD);
        s.refused(Scenes::last, "calls(2, 0) in 9999", x -> x.calls(2, 0), BAD, Sentence.AS_BAD);
        s.refused(Scenes::nobody, "from(2), none was kept", x -> x.from(2), BAD, Sentence.AS_BAD);
    }

    private static void counts() {
        Sentence s = Sentence.of(38,
            "How many: 0 SHEEP, 1 WHISTLES, 2 the STEP, 3 THE FOLD's CELL, 4 FOLDED, 5 SEEN, 6 NOTES, 7 MARKS, 8"
                + " that may be undone, 9 bytes of THE TEXT.");
        int[] some = {3, 2, 6, 12, 0, 1, 1, 1, 3, 25};
        int[] full = {7, 3, 10, 24, 0, 5, 6, 6, 8, 150};
        for (int n = 0; n < some.length; n++) {
            int what = n;
            if (what != 4) {
                s.onlyTold(Scenes::some, "count(" + what + "), some", x -> x.count(what), some[what]);
                s.onlyTold(Scenes::full, "count(" + what + "), full", x -> x.count(what), full[what]);
            }
        }
        WhistleFlock x = new WhistleFlock();
        for (int n = 0; n < 7; n++) {
            s.due("count(4) of " + n, x.count(4), n);
            x.sheep(0, 0);
        }
        s.due("count(4) of seven", x.count(4), 7);
        x.fold(24);
        s.due("count(4) of none in it", x.count(4), 0);
        WhistleFlock last = Checks.told("fell 0;sheep 0 1;sheep 0 0;sheep 0 0;");
        s.due("count(4), the first not in it", last.count(4), 2);
    }

    private static long chained(long... values) {
        BigInteger h = BigInteger.valueOf(1669);
        for (long value : values) {
            h = h.multiply(BigInteger.valueOf(31)).add(BigInteger.valueOf(value));
        }
        return h.longValue();
    }

    private static void digest() {
        Sentence s = Sentence.of(39, "h = 1669; then h = 31 h + v for each v: count(0) to count(9);");
        s.onlyTold(Scenes::nobody, "nobody there", WhistleFlock::digest, chained(0, 0, 0, 0, 0, 0, 0, 0, 0, 0, 0, 1));
        WhistleFlock x = new WhistleFlock();
        x.fell(24);
        x.steps(99);
        x.type(' ');
        s.due("nobody there, a step", x.digest(), chained(0, 0, 99, 24, 0, 0, 0, 0, 1, 1, 0, 1));
        x.fell(25);
        x.fold(24);
        s.due("STATUS is none of it", x.digest(), chained(0, 0, 99, 24, 0, 0, 0, 0, 1, 1, 0, 1));
        x.image(0);
        s.due("IMAGES are none of it", x.digest(), chained(0, 0, 99, 24, 0, 0, 0, 0, 1, 1, 0, 1));
    }

    private static void digestOfAll() {
        Sentence s = Sentence.of(39,
            "of WHISTLES KIND, CELL; of SHEEP KIND, CELL; of SEEN s, c; of NOTES i, t, x; of MARKS s, f, x; THE"
                + " FRACTION.");
        WhistleFlock x = Checks.told("fell 3;whistle 0 24;whistle 5 12;whistle 2 0;sheep 4 3;sheep 1 3;");
        x.misheard(0, 0, 4, 4, 0);
        s.due("some", x.digest(), chained(2, 3, 0, 3, 2, 0, 0, 0, 0, 65, 0, 24, 5, 12, 2, 0, 4, 3, 1, 3, 1, 1));
        x.seen(1, 24);
        x.note(2, 99, 20);
        x.mark(1, 8, 9);
        s.due("one of each", x.digest(), chained(2, 3, 0, 3, 2, 1, 1, 1, 0, 65, 0, 24, 5, 12, 2, 0, 4, 3, 1, 3,
            1, 24, 2, 99, 20, 1, 8, 9, 1, 1));
        for (int n = 0; n < 5; n++) {
            x.seen(0, n);
            x.note(1, n, n);
            x.mark(0, n, n);
        }
        s.due("as many as may be", x.digest(), chained(2, 3, 0, 3, 2, 5, 6, 6, 0, 65, 0, 24, 5, 12, 2, 0, 4, 3, 1, 3,
            1, 24, 0, 0, 0, 1, 0, 2, 0, 3, 2, 99, 20, 1, 0, 0, 1, 1, 1, 1, 2, 2, 1, 3, 3, 1, 4, 4,
            1, 8, 9, 0, 0, 0, 0, 1, 1, 0, 2, 2, 0, 3, 3, 0, 4, 4, 1, 1));
        x.forget(0);
        x.forget(1);
        x.forget(2);
        s.due("none of these", x.digest(), chained(2, 3, 0, 3, 2, 0, 0, 0, 0, 65, 0, 24, 5, 12, 2, 0, 4, 3, 1, 3, 1, 1));
    }

    private static void lastOfManyCalls() {
        Sentence s = Sentence.ofPart(1, Document.WHAT_IT_IS,
            "An object is used for at most 512 calls after it has been made;");
        WhistleFlock steps = new WhistleFlock();
        WhistleFlock refused = new WhistleFlock();
        WhistleFlock images = new WhistleFlock();
        for (int n = 1; n < MOST_CALLS; n++) {
            s.due("steps(1), the " + n + "-th call", steps.steps(1), n);
            s.due("fell(25), the " + n + "-th call", refused.fell(25), BAD);
            int i = (n - 1) / 2 % 2;
            s.due("an image, the " + n + "-th call", n % 2 == 1 ? images.image(i) : images.from(i), 1);
        }
        s.due("count(2), the 512th call", steps.count(2), 511);
        s.due("status(0), the 512th call", refused.status(0), 511);
        s.due("digest(), the 512th call", images.digest(), new WhistleFlock().digest());
    }

    private static void dearCalls() {
        Sentence s = Sentence.ofPart(1, Document.WHAT_IT_IS, "at most 512 calls after it has been made");
        String text = "fell 2;whistle 3 8;whistle 1 4;sheep 3 8;sheep 2 17;";
        for (int way = 0; way < 4; way++) {
            WhistleFlock x = Checks.told(text);
            long first = dear(x, way);
            for (int n = text.length() + 3; n <= MOST_CALLS; n++) {
                s.due("way " + way + ", the " + n + "-th call", dear(x, way), first);
            }
        }
    }

    private static long dear(WhistleFlock x, int way) {
        switch (way) {
            case 0: return x.gather(0, 1);
            case 1: return x.drive(1, 1, 20, -2);
            case 2: return x.winters(999999, 60);
            default: return x.shepherds(0, 1, 0);
        }
    }

    /** What they answer is free, but LANGUAGE.md says that no call may ever throw. */
    private static void laterCalls() {
        Sentence s = Sentence.ofPart(1, Document.NOT_PROMISED, "nothing about an object after its 512th call.");
        int thrown = 0;
        WhistleFlock x = Scenes.full();
        try {
            for (int n = 0; n < MOST_CALLS; n++) {
                changeAll(x);
                x.image(n % 2);
                x.from(n % 3);
                x.type(n % 200);
                x.misheard(0, 0, n % 5, n / 5 % 5, n % 11);
                Asks.all().values().forEach(ask -> ask.applyAsLong(x));
            }
        } catch (RuntimeException e) {
            thrown++;
        }
        s.due("how many threw", thrown, 0);
    }
}
