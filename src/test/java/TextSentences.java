/** A fell told by a text: what its items and tokens may be, and where the fault is. */
final class TextSentences {
    private static final String THREE_WHISTLES = "fell 0;whistle 0 0;whistle 0 0;whistle 0 0;";
    private static final String SEVEN_SHEEP =
        "fell 0;sheep 0 0;sheep 0 0;sheep 0 0;sheep 0 0;sheep 0 0;sheep 0 0;sheep 0 0;";
    private static final String ALL_STEPS = "fell 0;steps 99;steps 99;steps 99;steps 99;steps 99;steps 99;steps 99;"
        + "steps 99;steps 99;steps 99;steps 99;steps 99;steps 99;steps 99;steps 99;steps 1;";

    private static final String MADE =
        "fell 12;whistle 3 8;whistle 4 3;whistle 2 14;sheep 4 5;sheep 3 12;sheep 0 13;";

    private TextSentences() {
    }

    static void run() {
        typed();
        cleared();
        mostBytes();
        fellItem();
        whistleItem();
        sheepItem();
        callItem();
        stepsItem();
        words();
        numbers();
        bytesBehindAWord();
        bytesBehindANumber();
        blanks();
        wordsThatAreNone();
        wordsWithOneOtherLetter();
        fellAgain();
        aheadOfFell();
        oneTooMany();
        threeFigures();
        numbersNotAsTold();
        bytesThatBeginNone();
        whatCanNotStandThere();
        endedTooEarly();
        takesThePlace();
        answersAsOneThatIsMade();
        itemsAndFault();
    }

    /** As Scenes.some, but for THE TEXT. */
    private static WhistleFlock with(String text) {
        WhistleFlock x = Scenes.some();
        x.clear();
        Checks.write(x, text);
        return x;
    }

    private static WhistleFlock reads(Sentence s, String text, int items) {
        WhistleFlock x = with(text);
        s.done(x, "read() of " + text, WhistleFlock::read, items);
        return x;
    }

    private static void faults(Sentence s, String text, int place) {
        s.onlyTold(() -> with(text), "read() of " + text, WhistleFlock::read, -10 - place);
    }

    private static void typed() {
        Sentence s = Sentence.of(6, "A byte (0 .. 127) comes behind THE TEXT: how many it has.");
        WhistleFlock x = new WhistleFlock();
        s.due("count(9) at first", x.count(9), 0);
        String text = "fell 7;";
        for (int n = 0; n < text.length(); n++) {
            int c = text.charAt(n);
            s.done(x, "type(" + c + ")", y -> y.type(c), n + 1);
            s.due("count(9)", x.count(9), n + 1);
        }
        s.due("read()", x.read(), 1);
        s.due("type(0)", x.type(0), 8);
        s.due("read(), a byte 0 behind", x.read(), -17);
        s.due("type(127)", x.type(127), 9);
        Sentence full = Sentence.of(6, "FULL.");
        WhistleFlock all = with(ALL_STEPS.substring(0, 149));
        full.done(all, "type(59), the 150th", y -> y.type(';'), 150);
        full.refused(() -> with(ALL_STEPS), "type(59), the 151st", y -> y.type(';'), WhistleFlock.FULL, Sentence.AS_FULL);
    }

    private static void cleared() {
        Sentence s = Sentence.of(7, "THE TEXT is empty: how many it had.");
        for (String text : new String[] {"", "f", ALL_STEPS}) {
            WhistleFlock x = with(text);
            s.done(x, "clear()", WhistleFlock::clear, text.length());
            s.due("count(9)", x.count(9), 0);
            s.due("clear() once more", x.clear(), 0);
            s.due("read()", x.read(), -10);
            s.due("type behind it", x.type('f'), 1);
        }
    }

    private static void mostBytes() {
        Sentence s = Sentence.ofTerms(8, "THE FELL is told by a TEXT (150 bytes at most) of ITEMS, each ended by ; :");
        s.due("bytes of the test's own text", ALL_STEPS.length(), 150);
        WhistleFlock x = reads(s, ALL_STEPS, 17);
        s.due("the step", x.count(2), 1486);
        s.due("a byte more", x.type(' '), WhistleFlock.FULL);
        s.due("read() once more", x.read(), 17);
        faults(s, ALL_STEPS.substring(0, 149), 149);
        faults(s, ALL_STEPS.substring(0, 149) + " ", 150);
        faults(s, ALL_STEPS.substring(0, 149) + "!", 149);
        faults(s, ALL_STEPS.substring(0, 149) + "0", 150);
        reads(s, "fell 0;" + " ".repeat(143), 1);
        faults(s, " ".repeat(150), 150);
        reads(s, " ".repeat(143) + "fell 0;", 1);
        reads(s, Scenes.FULL_TEXT, 15);
    }

    private static void fellItem() {
        Sentence s = Sentence.ofTerms(8, "fell CELL (THE FOLD; once, first of all);");
        s.due("count(3)", reads(s, "fell 0;", 1).count(3), 0);
        s.due("count(3)", reads(s, "fell 24;", 1).count(3), 24);
        faults(s, "fell 25;", 5);
        faults(s, "fell 0;fell 0;", 7);
        faults(s, "whistle 0 0;fell 0;", 0);
    }

    private static void whistleItem() {
        Sentence s = Sentence.ofTerms(8, "whistle KIND CELL;");
        WhistleFlock x = reads(s, "fell 0;whistle 5 24;whistle 0 0;", 3);
        s.due("count(1)", x.count(1), 2);
        s.due("of(0, 0)", x.of(0, 0), 5);
        s.due("of(0, 1)", x.of(0, 1), 24);
        s.due("of(1, 0)", x.of(1, 0), 0);
        s.due("of(1, 1)", x.of(1, 1), 0);
        faults(s, "fell 0;whistle 6 24;", 15);
        faults(s, "fell 0;whistle 5 25;", 17);
    }

    private static void sheepItem() {
        Sentence s = Sentence.ofTerms(8, "sheep KIND CELL;");
        WhistleFlock x = reads(s, "fell 0;sheep 5 24;sheep 0 0;", 3);
        s.due("count(0)", x.count(0), 2);
        s.due("about(0, 0)", x.about(0, 0), 5);
        s.due("about(0, 1)", x.about(0, 1), 24);
        s.due("about(1, 0)", x.about(1, 0), 0);
        s.due("about(1, 1)", x.about(1, 1), 0);
        faults(s, "fell 0;sheep 6 24;", 13);
        faults(s, "fell 0;sheep 5 25;", 15);
    }

    private static void callItem() {
        Sentence s = Sentence.ofTerms(8, "call i d (a WHISTLE, a CALL);");
        int[] cells = {7, 13, 17, 11, 12};
        for (int d = 0; d < 5; d++) {
            WhistleFlock x = reads(s, "fell 0;whistle 0 12;sheep 0 12;call 0 " + d + ";", 4);
            s.due("of(0, 1)", x.of(0, 1), cells[d]);
            s.due("count(2)", x.count(2), 1);
        }
        WhistleFlock x = reads(s, "fell 0;whistle 0 12;whistle 0 0;whistle 1 24;sheep 0 13;sheep 0 12;call 2 0;call 0 1;", 8);
        s.due("of(2, 1)", x.of(2, 1), 14);
        s.due("about(0, 1), by two calls", x.about(0, 1), 11);
        s.due("about(1, 1), by the second call", x.about(1, 1), 11);
        faults(s, "fell 0;whistle 0 12;call 0 5;", 27);
        faults(s, "fell 0;whistle 0 12;call 1 4;", 25);
    }

    private static void stepsItem() {
        Sentence s = Sentence.ofTerms(8, "steps n (1 .. 99: so many go by, where it stands; nobody calls).");
        s.due("count(2)", reads(s, "fell 0;steps 1;", 2).count(2), 1);
        s.due("count(2)", reads(s, "fell 0;steps 99;", 2).count(2), 99);
        s.due("count(2)", reads(s, "fell 0;steps 99;steps 99;", 3).count(2), 198);
        faults(s, "fell 0;steps 0;", 13);
        faults(s, "fell 0;steps 100;", 13);
        WhistleFlock ahead = reads(s, "fell 0;whistle 2 12;steps 1;call 0 1;", 4);
        s.due("steps ahead of a call", ahead.of(0, 1), 13);
        WhistleFlock behind = reads(s, "fell 0;whistle 2 12;call 0 1;steps 1;", 4);
        s.due("steps behind a call", behind.of(0, 1), 12);
        s.due("count(2)", behind.count(2), 2);
        WhistleFlock nobody = reads(s, "fell 0;whistle 0 12;sheep 0 12;steps 9;", 4);
        s.due("nobody calls", nobody.about(0, 1), 12);
    }

    private static void words() {
        Sentence s = Sentence.ofTerms(8, "TOKENS: words of letters a .. z (a KIND is told as its number),");
        s.due("of(0, 0)", reads(s, "fell 0;whistle 4 3;", 2).of(0, 0), 4);
        faults(s, "fell 0;whistle kettle 3;", 15);
        faults(s, "fell 0;sheep ewe 3;", 13);
        faults(s, "Fell 0;", 0);
        faults(s, "felL 0;", 0);
        faults(s, "fellL 0;", 4);
        faults(s, "fell 0;Sheep 0 0;", 7);
        faults(s, "fella 0;", 0);
        faults(s, "fellz 0;", 0);
        faults(s, "fell` 0;", 4);
        faults(s, "fell{ 0;", 4);
    }

    private static void numbers() {
        Sentence s = Sentence.ofTerms(8, "figures (1 or 2 are one number),");
        s.due("7", reads(s, "fell 7;", 1).count(3), 7);
        s.due("07", reads(s, "fell 07;", 1).count(3), 7);
        s.due("00", reads(s, "fell 00;", 1).count(3), 0);
        s.due("19", reads(s, "fell 19;", 1).count(3), 19);
        s.due("90", reads(s, "fell 0;steps 90;", 2).count(2), 90);
        faults(s, "fell 0 7;", 7);
        faults(s, "fell 107;", 5);
    }

    private static boolean isLetter(int c) {
        return c >= 97 && c <= 122;
    }

    private static boolean isFigure(int c) {
        return c >= 48 && c <= 57;
    }

    private static void bytesBehindAWord() {
        Sentence s = Sentence.ofTerms(8, "words of letters a .. z");
        for (int c = 0; c <= 127; c++) {
            String text = "fell" + (char) c + "3;";
            if (isFigure(c) && c <= 50 || c == ' ') {
                reads(s, text, 1);
            } else if (isFigure(c)) {
                faults(s, text, 4);
            } else {
                faults(s, text, isLetter(c) ? 0 : 4);
            }
        }
    }

    private static void bytesBehindANumber() {
        Sentence s = Sentence.ofTerms(8, "; ; blanks (32), any number, ahead of, between and behind TOKENS");
        for (int c = 0; c <= 127; c++) {
            String text = "fell 1" + (char) c + ";";
            if (isFigure(c) || c == ' ') {
                reads(s, text, 1);
            } else {
                faults(s, text, c == ';' ? 7 : 6);
            }
        }
    }

    private static void blanks() {
        Sentence s = Sentence.ofTerms(8,
            "blanks (32), any number, ahead of, between and behind TOKENS (needed only between two words, two"
                + " numbers).");
        reads(s, "fell0;whistle5 24;sheep0 0;call0 4;steps9;", 5);
        reads(s, " fell 0 ; whistle 5 24 ; ", 2);
        reads(s, "    fell    0    ;    whistle    5    24    ;    ", 2);
        faults(s, "fellfell 0;", 0);
        faults(s, "fell 0;stepssteps 1;", 7);
        faults(s, "fell 0;whistle 05;", 17);
        faults(s, "fell 0;whistle 524;", 15);
        faults(s, "fell 0;st eps 1;", 7);
        faults(s, "fell 1 2;", 7);
    }

    private static void wordsThatAreNone() {
        Sentence s = Sentence.ofTerms(8,
            "FAULT: the place of the first byte of the first TOKEN that can not stand there (a word that is"
                + " none,");
        faults(s, "fel 0;", 0);
        faults(s, "  ell 0;", 2);
        faults(s, "fells 0;", 0);
        for (String word : new String[] {"whistl", "whistles", "shee", "sheeps", "cal", "calls", "step", "stepss", "a", "z",
            "fold", "f", "kettle", "plain", "ewe"}) {
            faults(s, "fell 0;" + word + " 1 1;", 7);
            faults(s, "fell 0; " + word, 8);
        }
        faults(s, "fell plain;", 5);
        faults(s, "fell 0;whistle 0 plain;", 17);
        faults(s, "fell 0;whistle 0 0 plain", 19);
    }

    private static void wordsWithOneOtherLetter() {
        Sentence s = Sentence.ofTerms(8, "(a word that is none,");
        for (String word : new String[] {"fell", "whistle", "sheep", "call", "steps"}) {
            String ahead = word.equals("fell") ? "" : "fell 0;whistle 0 0;";
            String behind = word.equals("fell") || word.equals("steps") ? " 1;" : " 0 1;";
            reads(s, ahead + word + behind, word.equals("fell") ? 1 : 3);
            for (int n = 0; n < word.length(); n++) {
                faults(s, ahead + word.substring(0, n) + 'q' + word.substring(n + 1) + behind, ahead.length());
                faults(s, ahead + word.substring(0, n) + word.substring(n + 1) + behind, ahead.length());
            }
            faults(s, ahead + word + "s" + behind, ahead.length());
        }
    }

    private static void fellAgain() {
        Sentence s = Sentence.ofTerms(8, "fell again,");
        faults(s, "fell 0;fell 0;", 7);
        faults(s, "fell 0;fell", 7);
        faults(s, "fell 0;whistle 0 0; fell 1;", 20);
        faults(s, "fell fell", 5);
    }

    private static void aheadOfFell() {
        Sentence s = Sentence.ofTerms(8, "anything ahead of it,");
        faults(s, "whistle 0 0;fell 0;", 0);
        faults(s, "sheep 0 0;fell 0;", 0);
        faults(s, "call 0 0;fell 0;", 0);
        faults(s, " steps 1;fell 0;", 1);
        faults(s, ";fell 0;", 0);
        faults(s, "0 fell 0;", 0);
        faults(s, "  0fell 0;", 2);
        faults(s, "!fell 0;", 0);
    }

    private static void oneTooMany() {
        Sentence s = Sentence.ofTerms(8, "a 4th whistle, an 8th sheep at its word,");
        s.due("count(1)", reads(s, THREE_WHISTLES, 4).count(1), 3);
        faults(s, THREE_WHISTLES + "whistle 0 0;", 43);
        faults(s, THREE_WHISTLES + "  whistle", 45);
        faults(s, THREE_WHISTLES + "whistle 9 99 x", 43);
        s.due("count(0)", reads(s, THREE_WHISTLES + "sheep 0 0;", 5).count(0), 1);
        s.due("count(0)", reads(s, SEVEN_SHEEP, 8).count(0), 7);
        faults(s, SEVEN_SHEEP + "sheep 0 0;", 77);
        faults(s, SEVEN_SHEEP + "  sheep", 79);
        faults(s, SEVEN_SHEEP + "sheep 9 99 x", 77);
        s.due("count(1)", reads(s, SEVEN_SHEEP + "whistle 0 0;", 9).count(1), 1);
    }

    private static void threeFigures() {
        Sentence s = Sentence.ofTerms(8, "a run of three figures or more (at its first one),");
        faults(s, "fell 000;", 5);
        faults(s, "fell  012", 6);
        faults(s, "fell 1234567890;", 5);
        faults(s, "fell 0;whistle 001 0;", 15);
        faults(s, "fell 0;whistle 1 024;", 17);
        faults(s, "fell 0;sheep 1 000;", 15);
        faults(s, "fell 0;steps 001;", 13);
        faults(s, "fell 0;steps 999;", 13);
        faults(s, "fell 0;whistle 0 0;call 000 0;", 24);
        faults(s, "fell 0;whistle 0 0;call 0 004;", 26);
        reads(s, "fell 0;whistle 00 00;call 00 04;steps 01;", 4);
    }

    private static void numbersNotAsTold() {
        Sentence s = Sentence.ofTerms(8, "a number not as told, also a WHISTLE that is not there yet,");
        faults(s, "fell 25;", 5);
        faults(s, "fell 99", 5);
        faults(s, "fell 0;whistle 6 0;", 15);
        faults(s, "fell 0;whistle 99 99;", 15);
        faults(s, "fell 0;whistle 0 25;", 17);
        faults(s, "fell 0;sheep 6 0;", 13);
        faults(s, "fell 0;sheep 0 25;", 15);
        faults(s, "fell 0;steps 0;", 13);
        faults(s, "fell 0;steps 00;", 13);
        faults(s, "fell 0;call 0 0;", 12);
        faults(s, "fell 0;call 0 4;whistle 0 0;", 12);
        faults(s, "fell 0;whistle 0 0;call 1 0;whistle 0 0;", 24);
        faults(s, "fell 0;whistle 0 0;call 0 5;", 26);
        faults(s, THREE_WHISTLES + "call 3 0;", 48);
        reads(s, THREE_WHISTLES + "call 2 4;", 5);
    }

    private static void bytesThatBeginNone() {
        Sentence s = Sentence.ofTerms(8, "a byte that begins none, too);");
        for (int c = 0; c <= 127; c++) {
            if (!isLetter(c) && !isFigure(c) && c != ' ' && c != ';') {
                faults(s, "" + (char) c, 0);
                faults(s, "fell " + (char) c + "0;", 5);
                faults(s, "fell 0;" + (char) c, 7);
            }
        }
    }

    private static void whatCanNotStandThere() {
        Sentence s = Sentence.of(8, "-10 less the FAULT: all stays.");
        faults(s, "fell;", 4);
        faults(s, "fell steps", 5);
        faults(s, "fell 0 sheep", 7);
        faults(s, "fell 0;;", 7);
        faults(s, "fell 0;7", 7);
        faults(s, "fell 0;whistle;", 14);
        faults(s, "fell 0;whistle sheep", 15);
        faults(s, "fell 0;whistle 0;", 16);
        faults(s, "fell 0;whistle 0 call", 17);
        faults(s, "fell 0;whistle 0 0 0;", 19);
        faults(s, "fell 0;whistle 0 0 call", 19);
        faults(s, "fell 0;sheep;", 12);
        faults(s, "fell 0;sheep 0;", 14);
        faults(s, "fell 0;sheep 0 0 0;", 17);
        faults(s, "fell 0;steps;", 12);
        faults(s, "fell 0;steps 1 1;", 15);
        faults(s, "fell 0;whistle 0 0;call;", 23);
        faults(s, "fell 0;whistle 0 0;call 0;", 25);
        faults(s, "fell 0;whistle 0 0;call 0 0 0;", 28);
    }

    private static void endedTooEarly() {
        Sentence s = Sentence.ofTerms(8, "the TEXT's length, if it ends too early (an empty one, too).");
        String text = "fell 7;steps 10;";
        int[] places = {0, 0, 0, 0, 4, 5, 6, -1, 7, 7, 7, 7, 12, 13, 14, 15, -1};
        for (int length = 0; length < places.length; length++) {
            if (places[length] < 0) {
                reads(s, text.substring(0, length), length == 7 ? 1 : 2);
            } else {
                faults(s, text.substring(0, length), places[length]);
            }
        }
        faults(s, " ", 1);
        faults(s, "fell   ", 7);
        faults(s, "fell 0   ", 9);
        faults(s, "fell 0;whistle", 14);
        faults(s, "fell 0;whistle 0", 16);
        faults(s, "fell 0;whistle 0 0", 18);
        faults(s, "fell 0;whistle 0 0  ", 20);
        faults(s, "fell 0;whistle 0 0;call 0", 25);
    }

    private static void takesThePlace() {
        Sentence s = Sentence.ofTerms(8,
            "A FELL that is read takes the place of all but IMAGES, THE TEXT, THE FRACTION, STATUS (SEEN ones,"
                + " NOTES, MARKS none; nothing to undo).");
        WhistleFlock x = Scenes.full();
        x.clear();
        Checks.write(x, "fell 5;sheep 1 5;");
        x.misheard(0, 0, 4, 4, 0);
        long fraction = 1000 * x.part(0) + x.part(1);
        s.done(x, "read()", WhistleFlock::read, 2);
        int[] counts = {1, 0, 0, 5, 1, 0, 0, 0, 0, 17};
        for (int what = 0; what < counts.length; what++) {
            s.due("count(" + what + ")", x.count(what), counts[what]);
        }
        s.due("THE FRACTION", 1000 * x.part(0) + x.part(1), fraction);
        s.due("undo()", x.undo(), WhistleFlock.NO);
        for (int i = 0; i < 2; i++) {
            WhistleFlock other = Scenes.full();
            other.clear();
            Checks.write(other, "fell 5;sheep 1 5;");
            other.misheard(0, 0, 4, 4, 0);
            s.due("from(" + i + ")", x.from(i), other.from(i));
            s.due("the image " + i, x.digest(), other.digest());
        }
    }

    /** One that is read in a full fell answers as one that is made by calls, THE TEXT being the same. */
    private static void answersAsOneThatIsMade() {
        Sentence s = Sentence.ofTerms(8,
            "A FELL that is read takes the place of all but IMAGES, THE TEXT, THE FRACTION,");
        Asks.all().forEach((name, ask) -> {
            WhistleFlock read = Scenes.full();
            read.clear();
            Checks.write(read, MADE);
            s.due("read()", read.read(), 7);
            s.due(name, ask.applyAsLong(read), ask.applyAsLong(made()));
        });
    }

    private static WhistleFlock made() {
        WhistleFlock x = new WhistleFlock();
        Checks.write(x, MADE);
        x.fell(12);
        x.whistle(3, 8);
        x.whistle(4, 3);
        x.whistle(2, 14);
        x.sheep(4, 5);
        x.sheep(3, 12);
        x.sheep(0, 13);
        return x;
    }

    private static void itemsAndFault() {
        Sentence s = Sentence.of(8, "THE FELL is read: how many ITEMS.");
        reads(s, "fell 0;", 1);
        reads(s, "fell 0;steps 1;", 2);
        reads(s, "fell 0;sheep 0 0;whistle 0 0;", 3);
        reads(s, SEVEN_SHEEP, 8);
        WhistleFlock x = reads(s, "fell 9;steps 7;", 2);
        x.sheep(0, 0);
        x.steps(3);
        s.due("read() once more, from the beginning", x.read(), 2);
        s.due("count(0)", x.count(0), 0);
        s.due("count(2)", x.count(2), 7);
        x.type('x');
        s.due("read(), one that is none behind it", x.read(), -25);
        s.due("count(2)", x.count(2), 7);
    }
}
