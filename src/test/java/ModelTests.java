import java.util.Random;

/** Runs of calls by a fixed seed, on the class and on the model: every answer and the digest behind it are alike. */
final class ModelTests {
    private static final int RUNS = 3000, LAST_CALL = 310, WAYS = 51;

    private final Random random;
    private final WhistleFlock flock = new WhistleFlock();
    private final Model model = new Model();
    private final int run;
    private String told = "";
    private int asked;

    private ModelTests(int run) {
        this.run = run;
        random = new Random(1669L * run);
    }

    static void run() {
        for (int run = 0; run < RUNS; run++) {
            ModelTests one = new ModelTests(run);
            if (!one.isAlike()) {
                return;
            }
        }
    }

    private boolean isAlike() {
        if (run % 50 == 0) {
            for (int n = 0; n < 100; n++) {
                alike(10, "steps(99)", flock.steps(99), model.steps(99));
            }
        }
        boolean alike = true;
        for (int n = 1; asked < LAST_CALL && alike; n++) {
            alike = callBoth(random.nextInt(WAYS));
            if (alike && n % 8 == 0) {
                alike = alike(39, "digest()", flock.digest(), model.digest()) && isStatusAlike();
            }
        }
        Checks.holds("run " + run + " is as in the model: " + told, alike);
        return alike;
    }

    private boolean isStatusAlike() {
        boolean alike = true;
        for (int what = 0; what < 3 && alike; what++) {
            alike = alike(37, "status(" + what + ")", flock.status(what), model.status(what));
        }
        return alike;
    }

    private boolean alike(int promise, String call, long got, long want) {
        asked++;
        told = "promise " + promise + ", " + call + " answered " + got + ", due is " + want;
        return got == want;
    }

    /** Most often within the bounds, now and then one beside them, seldom far off. */
    private int number(int least, int most) {
        int way = random.nextInt(60);
        if (way == 0) {
            return least - 1 - random.nextInt(2);
        }
        if (way == 1) {
            return most + 1;
        }
        if (way == 2) {
            return random.nextBoolean() ? random.nextInt() : random.nextBoolean() ? Integer.MIN_VALUE : Integer.MAX_VALUE;
        }
        return least + random.nextInt(most - least + 1);
    }

    private int whistle() {
        return number(0, Math.max(0, model.count(1) - 1));
    }

    private int sheep() {
        return number(0, Math.max(0, model.count(0) - 1));
    }

    private boolean callBoth(int way) {
        if (way < 12) {
            return calls(way);
        }
        if (way < 20) {
            return beginnings(way - 12);
        }
        if (way < 34) {
            return askings(way - 20);
        }
        return others(way - 34);
    }

    private boolean calls(int way) {
        int i = whistle();
        int s = sheep();
        int d = number(0, 4);
        int n = random.nextInt(3) == 0 ? number(1, 99) : number(1, 4);
        switch (way) {
            case 0:
            case 1:
            case 2:
                return alike(9, "calls(" + i + ", " + d + ")", flock.calls(i, d), model.calls(i, d));
            case 3:
                return alike(10, "steps(" + n + ")", flock.steps(n), model.steps(n));
            case 4:
            case 5:
                return alike(11, "undo()", flock.undo(), model.undo());
            case 6:
                int what = number(0, 2);
                return alike(12, "of(" + i + ", " + what + ")", flock.of(i, what), model.of(i, what));
            case 7:
                int which = number(0, 2);
                return alike(13, "about(" + s + ", " + which + ")", flock.about(s, which), model.about(s, which));
            case 8:
                return alike(14, "goes(" + i + ", " + d + ")", flock.goes(i, d), model.goes(i, d));
            case 9:
                return alike(15, "gives(" + s + ", " + i + ", " + d + ")", flock.gives(s, i, d), model.gives(s, i, d));
            case 10:
                return alike(16, "folded()", flock.folded(), model.folded());
            default:
                int x = number(0, 9);
                return alike(38, "count(" + x + ")", flock.count(x), model.count(x));
        }
    }

    private boolean beginnings(int way) {
        int c = number(0, 24);
        int kind = number(0, 5);
        switch (way) {
            case 0:
                if (random.nextInt(6) != 0) {
                    return true;
                }
                return alike(2, "fell(" + c + ")", flock.fell(c), model.fell(c));
            case 1:
            case 2:
                return alike(3, "whistle(" + kind + ", " + c + ")", flock.whistle(kind, c), model.whistle(kind, c));
            case 3:
            case 4:
                return alike(4, "sheep(" + kind + ", " + c + ")", flock.sheep(kind, c), model.sheep(kind, c));
            case 5:
                return alike(5, "fold(" + c + ")", flock.fold(c), model.fold(c));
            case 6:
                int x = number(0, 127);
                return alike(6, "type(" + x + ")", flock.type(x), model.type(x));
            default:
                return readText();
        }
    }

    private boolean readText() {
        String text = text();
        boolean alike = alike(7, "clear()", flock.clear(), model.clear());
        for (int place = 0; place < text.length() && alike; place++) {
            char c = text.charAt(place);
            alike = alike(6, "type(" + (int) c + ")", flock.type(c), model.type(c));
        }
        return alike && alike(8, "read() of " + text, flock.read(), model.read());
    }

    private String text() {
        StringBuilder text = new StringBuilder("fell " + random.nextInt(25) + ";");
        String[] words = {"whistle", "sheep", "call", "steps", "sheep"};
        int items = random.nextInt(12);
        for (int n = 0; n < items; n++) {
            String word = n == 0 ? "whistle" : words[random.nextInt(words.length)];
            text.append(word).append(random.nextInt(4) == 0 ? "  " : " ");
            if (word.equals("steps")) {
                text.append(1 + random.nextInt(99));
            } else if (word.equals("call")) {
                text.append(random.nextInt(8) == 0 ? 1 : 0).append(' ').append(random.nextInt(5));
            } else {
                text.append(random.nextInt(6)).append(' ').append(random.nextInt(25));
            }
            text.append(random.nextInt(5) == 0 ? " ; " : ";");
        }
        spoil(text);
        return text.toString();
    }

    private void spoil(StringBuilder text) {
        String signs = " ;0123456789abcdefghilpstw{`/:-\n\0";
        for (int n = random.nextInt(4) - 1; n > 0 && text.length() > 1; n--) {
            int place = random.nextInt(text.length());
            char sign = signs.charAt(random.nextInt(signs.length()));
            switch (random.nextInt(4)) {
                case 0:
                    text.insert(place, sign);
                    break;
                case 1:
                    text.setCharAt(place, sign);
                    break;
                case 2:
                    text.deleteCharAt(place);
                    break;
                default:
                    text.setLength(place + 1);
                    break;
            }
        }
    }

    private boolean askings(int way) {
        int i = whistle();
        int s = sheep();
        int c = random.nextBoolean() ? number(0, 24) : model.comesTo(s, i, random.nextInt(5));
        int k = number(0, 3) - 1;
        switch (way) {
            case 0:
                return alike(20, "seen(" + s + ", " + c + ")", flock.seen(s, c), model.seen(s, c));
            case 1:
                return alike(21, "which(" + i + ")", flock.which(i), model.which(i));
            case 2:
                return alike(22, "whose(" + k + ")", flock.whose(k), model.whose(k));
            case 3:
                return alike(23, "tell(" + i + ")", flock.tell(i), model.tell(i));
            case 4:
                int t = number(0, 99);
                int x = random.nextInt(5) == 0 ? number(0, 20) : number(0, 4);
                return alike(24, "note(" + i + ", " + t + ", " + x + ")", flock.note(i, t, x), model.note(i, t, x));
            case 5:
                int f = number(0, 8);
                int y = random.nextInt(5) == 0 ? number(0, 9) : number(0, 3);
                return alike(25, "mark(" + s + ", " + f + ", " + y + ")", flock.mark(s, f, y), model.mark(s, f, y));
            case 6:
                int what = number(0, 2);
                return alike(26, "forget(" + what + ")", flock.forget(what), model.forget(what));
            case 7:
                return alike(27, "is(" + i + ")", flock.is(i), model.is(i));
            case 8:
                return alike(28, "look(" + i + ")", flock.look(i), model.look(i));
            case 9:
                return alike(29, "kinds(" + s + ")", flock.kinds(s), model.kinds(s));
            case 10:
                return alike(30, "ask(" + s + ")", flock.ask(s), model.ask(s));
            case 11:
                int b = whistle();
                return alike(31, "shepherds(" + i + ", " + b + ", " + k + ")", flock.shepherds(i, b, k),
                    model.shepherds(i, b, k));
            case 12:
                return misheard(s, i);
            default:
                int seed = number(0, 999999);
                int n = number(0, 60);
                return alike(33, "winters(" + seed + ", " + n + ")", flock.winters(seed, n), model.winters(seed, n));
        }
    }

    private boolean misheard(int s, int i) {
        int d = number(0, 4);
        int e = number(0, 4);
        int c = number(0, 10);
        String call = "misheard(" + s + ", " + i + ", " + d + ", " + e + ", " + c + ")";
        return alike(32, call, flock.misheard(s, i, d, e, c), model.misheard(s, i, d, e, c));
    }

    private boolean others(int way) {
        int i = whistle();
        int s = sheep();
        int what = number(0, 1);
        switch (way) {
            case 0:
            case 1:
            case 2:
                int c = number(0, 24);
                int k = random.nextBoolean() ? -2 : number(0, 10) - 1;
                return alike(17, "drive(" + s + ", " + i + ", " + c + ", " + k + ")", flock.drive(s, i, c, k),
                    model.drive(s, i, c, k));
            case 3:
            case 4:
                return alike(18, "near(" + i + ", " + what + ")", flock.near(i, what), model.near(i, what));
            case 5:
            case 6:
                return alike(19, "gather(" + i + ", " + what + ")", flock.gather(i, what), model.gather(i, what));
            case 7:
                return alike(34, "part(" + what + ")", flock.part(what), model.part(what));
            case 8:
            case 9:
                return alike(35, "image(" + what + ")", flock.image(what), model.image(what));
            case 10:
                return alike(36, "from(" + what + ")", flock.from(what), model.from(what));
            case 11:
            case 12:
                int kind = number(0, 2);
                return alike(37, "status(" + kind + ")", flock.status(kind), model.status(kind));
            case 13:
                return alike(8, "read()", flock.read(), model.read());
            case 14:
                return misheard(s, i);
            case 15:
                return alike(7, "clear()", flock.clear(), model.clear());
            default:
                return alike(39, "digest()", flock.digest(), model.digest());
        }
    }
}
