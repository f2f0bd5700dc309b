import java.util.ArrayList;
import java.util.Arrays;
import java.util.HashMap;
import java.util.List;
import java.util.Map;
import java.util.regex.Matcher;
import java.util.regex.Pattern;

/**
 * The document told a second time, as plainly as can be, by other means than the class uses: kinds are classes under
 * one another, every tried call makes a new fell, rows of calls are looked for by trying, texts are cut by a pattern.
 */
final class Model {
    private static final int BAD = -2, NO = -3, FULL = -4;

    private static class Plain {
        int goes(int t) {
            return 1;
        }
    }

    private static class Long extends Plain {
        @Override
        int goes(int t) {
            return super.goes(t) + 1;
        }
    }

    private static class Lip extends Plain {
        @Override
        int goes(int t) {
            return t % 3 == 0 ? 0 : super.goes(t);
        }
    }

    private static final class Temper extends Long {
        @Override
        int goes(int t) {
            return t % 5 == 0 ? 2 * super.goes(t) : super.goes(t);
        }
    }

    private static final class Kettle extends Plain {
        @Override
        int goes(int t) {
            return super.goes(t) + t % 2;
        }
    }

    private static final class Old extends Lip {
        @Override
        int goes(int t) {
            return t < 20 ? super.goes(t) : super.goes(t) + 1;
        }
    }

    private static class Ewe {
        int gives(int f) {
            return f < 2 ? 1 : 0;
        }
    }

    private static class Lamb extends Ewe {
        @Override
        int gives(int f) {
            return f == 0 ? super.gives(f) + 2 : super.gives(f);
        }
    }

    private static final class Ram extends Ewe {
        @Override
        int gives(int f) {
            return f == 0 ? super.gives(f) : 0;
        }
    }

    private static final class Tourist extends Lamb {
        @Override
        int gives(int f) {
            return f < 4 && super.gives(f) < 1 ? 1 : super.gives(f);
        }
    }

    private static class Hogg extends Ewe {
        @Override
        int gives(int f) {
            return f < 3 ? super.gives(f) + 1 : super.gives(f);
        }
    }

    private static final class Stray extends Hogg {
        @Override
        int gives(int f) {
            return Math.min(3, super.gives(f) * 2);
        }
    }

    private static final Plain[] WHISTLES = {new Plain(), new Long(), new Lip(), new Temper(), new Kettle(), new Old()};
    private static final Ewe[] SHEEP = {new Ewe(), new Lamb(), new Ram(), new Tourist(), new Hogg(), new Stray()};

    /** Where all are in one step; it never changes. */
    private static final class Fell {
        final int fold;
        final int step;
        final int[][] whistles;
        final int[][] sheep;

        Fell(int fold, int step, int[][] whistles, int[][] sheep) {
            this.fold = fold;
            this.step = step;
            this.whistles = whistles;
            this.sheep = sheep;
        }

        int goes(int i, int d) {
            int cell = whistles[i][1];
            for (int n = WHISTLES[whistles[i][0]].goes(step); n > 0; n--) {
                cell = oneOn(cell, d);
            }
            return cell;
        }

        int gives(int s, int i, int d) {
            return givesWay(sheep[s][0], sheep[s][1], goes(i, d));
        }

        Fell call(int i, int d) {
            int[][] gone = copied(whistles);
            gone[i][1] = goes(i, d);
            int[][] given = copied(sheep);
            for (int s = 0; s < sheep.length; s++) {
                given[s][1] = gives(s, i, d);
            }
            return new Fell(fold, step + 1, gone, given);
        }

        Fell wait(int n) {
            return new Fell(fold, step + n, whistles, sheep);
        }

        int folded() {
            int bits = 0;
            for (int s = 0; s < sheep.length; s++) {
                bits += sheep[s][1] == fold ? 1 << s : 0;
            }
            return bits;
        }

        int farTogether() {
            int far = 0;
            for (int[] one : sheep) {
                far += far(one[1], fold);
            }
            return far;
        }
    }

    private static int[][] copied(int[][] rows) {
        int[][] copy = new int[rows.length][];
        for (int n = 0; n < rows.length; n++) {
            copy[n] = rows[n].clone();
        }
        return copy;
    }

    private static int[][] more(int[][] rows, int... row) {
        int[][] all = Arrays.copyOf(rows, rows.length + 1);
        all[rows.length] = row;
        return all;
    }

    private static int oneOn(int cell, int d) {
        if (d == 0) {
            return cell < 5 ? cell : cell - 5;
        }
        if (d == 1) {
            return cell % 5 == 4 ? cell : cell + 1;
        }
        if (d == 2) {
            return cell >= 20 ? cell : cell + 5;
        }
        return d == 3 && cell % 5 != 0 ? cell - 1 : cell;
    }

    private static int far(int a, int b) {
        return Math.abs(a / 5 - b / 5) + Math.abs(a % 5 - b % 5);
    }

    private static int givesWay(int kind, int cell, int whistle) {
        int rows = cell / 5 - whistle / 5;
        int columns = cell % 5 - whistle % 5;
        int d;
        if (Math.abs(rows) >= 1 && Math.abs(rows) >= Math.abs(columns)) {
            d = rows < 0 ? 0 : 2;
        } else {
            d = columns < 0 ? 3 : 1;
        }
        int to = cell;
        for (int n = SHEEP[kind].gives(far(cell, whistle)); n > 0; n--) {
            to = oneOn(to, d);
        }
        return to;
    }

    /** What an image keeps. */
    private static final class Kept {
        Fell fell = new Fell(0, 0, new int[0][], new int[0][]);
        List<int[]> seen = new ArrayList<>();
        List<int[]> notes = new ArrayList<>();
        List<int[]> marks = new ArrayList<>();
        List<Fell> past = new ArrayList<>();

        Kept copy() {
            Kept copy = new Kept();
            copy.fell = fell;
            copy.seen = new ArrayList<>(seen);
            copy.notes = new ArrayList<>(notes);
            copy.marks = new ArrayList<>(marks);
            copy.past = new ArrayList<>(past);
            return copy;
        }

        void remember() {
            past.add(fell);
            if (past.size() > 8) {
                past.remove(0);
            }
        }
    }

    private Kept now = new Kept();
    private final Kept[] images = new Kept[2];
    private final StringBuilder text = new StringBuilder();
    private int above = 0;
    private int below = 1;
    private final int[] refused = new int[3];

    private int bad() {
        return bad(BAD);
    }

    private int bad(int answer) {
        refused[0]++;
        return answer;
    }

    private int no() {
        refused[1]++;
        return NO;
    }

    private int full() {
        refused[2]++;
        return FULL;
    }

    /** Whither a sheep would come, for who chooses what to ask; nothing is refused. */
    int comesTo(int s, int i, int d) {
        return isSheep(s) && isWhistle(i) ? now.fell.gives(s, i, d) : 0;
    }

    private static boolean in(int x, int from, int to) {
        return from <= x && x <= to;
    }

    private boolean isWhistle(int i) {
        return i >= 0 && i < now.fell.whistles.length;
    }

    private boolean isSheep(int s) {
        return s >= 0 && s < now.fell.sheep.length;
    }

    int fell(int c) {
        if (!in(c, 0, 24)) {
            return bad();
        }
        int were = now.fell.sheep.length;
        now = new Kept();
        now.fell = new Fell(c, 0, new int[0][], new int[0][]);
        return were;
    }

    int whistle(int kind, int c) {
        if (!in(kind, 0, 5) || !in(c, 0, 24)) {
            return bad();
        }
        Fell old = now.fell;
        if (old.whistles.length == 3) {
            return full();
        }
        now.fell = new Fell(old.fold, old.step, more(old.whistles, kind, c), old.sheep);
        now.past.clear();
        return old.whistles.length;
    }

    int sheep(int kind, int c) {
        if (!in(kind, 0, 5) || !in(c, 0, 24)) {
            return bad();
        }
        Fell old = now.fell;
        if (old.sheep.length == 7) {
            return full();
        }
        now.fell = new Fell(old.fold, old.step, old.whistles, more(old.sheep, kind, c));
        now.past.clear();
        return old.sheep.length;
    }

    int fold(int c) {
        if (!in(c, 0, 24)) {
            return bad();
        }
        Fell old = now.fell;
        if (old.fold == c) {
            return no();
        }
        now.fell = new Fell(c, old.step, old.whistles, old.sheep);
        now.past.clear();
        return old.fold;
    }

    int type(int c) {
        if (!in(c, 0, 127)) {
            return bad();
        }
        if (text.length() == 150) {
            return full();
        }
        return text.append((char) c).length();
    }

    int clear() {
        int had = text.length();
        text.setLength(0);
        return had;
    }

    private static final Pattern TOKEN = Pattern.compile("[a-z]+|[0-9]+|[^ ]", Pattern.DOTALL);
    private static final List<String> WORDS = Arrays.asList("fell", "whistle", "sheep", "call", "steps");

    int read() {
        List<String> tokens = new ArrayList<>();
        List<Integer> places = new ArrayList<>();
        Matcher matcher = TOKEN.matcher(text);
        while (matcher.find()) {
            tokens.add(matcher.group());
            places.add(matcher.start());
        }
        places.add(text.length());
        tokens.add("");
        Fell fell = new Fell(0, 0, new int[0][], new int[0][]);
        int items = 0;
        int at = 0;
        while (items == 0 || at < tokens.size() - 1) {
            int[] numbers = new int[2];
            int word = WORDS.indexOf(tokens.get(at));
            if (word < 0 || (word == 0) != (items == 0) || word == 1 && fell.whistles.length == 3
                || word == 2 && fell.sheep.length == 7) {
                return -10 - places.get(at);
            }
            at++;
            for (int n = 0; n < (word == 0 || word == 4 ? 1 : 2); n++) {
                if (!tokens.get(at).matches("[0-9][0-9]?") || !isTold(word, n, fell, Integer.parseInt(tokens.get(at)))) {
                    return -10 - places.get(at);
                }
                numbers[n] = Integer.parseInt(tokens.get(at));
                at++;
            }
            if (!tokens.get(at).equals(";")) {
                return -10 - places.get(at);
            }
            at++;
            items++;
            fell = carriedOut(word, numbers, fell);
        }
        now = new Kept();
        now.fell = fell;
        return items;
    }

    private static boolean isTold(int word, int n, Fell fell, int number) {
        if (word == 4) {
            return in(number, 1, 99);
        }
        if (word == 3) {
            return n == 0 ? number < fell.whistles.length : number < 5;
        }
        return word != 0 && n == 0 ? number < 6 : number < 25;
    }

    private static Fell carriedOut(int word, int[] numbers, Fell fell) {
        switch (word) {
            case 0: return new Fell(numbers[0], 0, fell.whistles, fell.sheep);
            case 1: return new Fell(fell.fold, fell.step, more(fell.whistles, numbers), fell.sheep);
            case 2: return new Fell(fell.fold, fell.step, fell.whistles, more(fell.sheep, numbers));
            case 3: return fell.call(numbers[0], numbers[1]);
            default: return fell.wait(numbers[0]);
        }
    }

    int calls(int i, int d) {
        if (!isWhistle(i) || !in(d, 0, 4)) {
            return bad();
        }
        if (now.fell.step == 9999) {
            return no();
        }
        now.remember();
        Fell old = now.fell;
        now.fell = old.call(i, d);
        int elsewhere = 0;
        for (int s = 0; s < old.sheep.length; s++) {
            elsewhere += old.sheep[s][1] == now.fell.sheep[s][1] ? 0 : 1;
        }
        return elsewhere;
    }

    int steps(int n) {
        if (!in(n, 1, 99)) {
            return bad();
        }
        now.remember();
        now.fell = now.fell.wait(Math.min(n, 9999 - now.fell.step));
        return now.fell.step;
    }

    int undo() {
        if (now.past.isEmpty()) {
            return no();
        }
        now.fell = now.past.remove(now.past.size() - 1);
        return now.fell.step;
    }

    int of(int i, int what) {
        if (!isWhistle(i) || !in(what, 0, 2)) {
            return bad();
        }
        return what == 2 ? WHISTLES[now.fell.whistles[i][0]].goes(now.fell.step) : now.fell.whistles[i][what];
    }

    int about(int s, int what) {
        if (!isSheep(s) || !in(what, 0, 2)) {
            return bad();
        }
        return what == 2 ? far(now.fell.sheep[s][1], now.fell.fold) : now.fell.sheep[s][what];
    }

    int goes(int i, int d) {
        return isWhistle(i) && in(d, 0, 4) ? now.fell.goes(i, d) : bad();
    }

    int gives(int s, int i, int d) {
        return isSheep(s) && isWhistle(i) && in(d, 0, 4) ? now.fell.gives(s, i, d) : bad();
    }

    int folded() {
        return now.fell.folded();
    }

    int drive(int s, int i, int c, int k) {
        if (!isSheep(s) || !isWhistle(i) || !in(c, 0, 24) || k == -1 || k < -2) {
            return bad(-10);
        }
        Fell two = new Fell(now.fell.fold, now.fell.step, new int[][] {now.fell.whistles[i]}, new int[][] {now.fell.sheep[s]});
        Map<String, List<Integer>> known = new HashMap<>();
        for (int n = 0; n <= 10; n++) {
            List<Integer> row = firstRow(two, c, n, known);
            if (row != null) {
                return k == -2 ? n : k < n ? row.get(k) : -5;
            }
        }
        return -6;
    }

    private static List<Integer> firstRow(Fell fell, int c, int n, Map<String, List<Integer>> known) {
        if (n == 0) {
            return fell.sheep[0][1] == c ? new ArrayList<>() : null;
        }
        String key = fell.step + " " + n + " " + fell.whistles[0][1] + " " + fell.sheep[0][1];
        if (!known.containsKey(key)) {
            List<Integer> row = null;
            for (int d = 0; d < 5 && row == null; d++) {
                List<Integer> rest = firstRow(fell.call(0, d), c, n - 1, known);
                if (rest != null) {
                    row = new ArrayList<>(rest);
                    row.add(0, d);
                }
            }
            known.put(key, row);
        }
        return known.get(key);
    }

    int near(int i, int what) {
        if (!isWhistle(i) || !in(what, 0, 1)) {
            return bad();
        }
        int best = 4;
        for (int d = 3; d >= 0; d--) {
            best = now.fell.call(i, d).farTogether() <= now.fell.call(i, best).farTogether() ? d : best;
        }
        return what == 0 ? best : now.fell.call(i, best).farTogether();
    }

    int gather(int i, int what) {
        if (!isWhistle(i) || !in(what, 0, 1)) {
            return bad();
        }
        int most = -1;
        int three = 0;
        for (int a = 0; a < 5; a++) {
            for (int b = 0; b < 5; b++) {
                for (int c = 0; c < 5; c++) {
                    int many = Integer.bitCount(now.fell.call(i, a).call(i, b).call(i, c).folded());
                    if (many > most) {
                        most = many;
                        three = 100 * a + 10 * b + c;
                    }
                }
            }
        }
        return what == 0 ? most : three;
    }

    private int added(List<int[]> rows, int most, int... row) {
        if (rows.size() == most) {
            return full();
        }
        rows.add(row);
        return rows.size();
    }

    int seen(int s, int c) {
        return isSheep(s) && in(c, 0, 24) ? added(now.seen, 5, s, c) : bad();
    }

    private boolean allSeenBy(int i, int d) {
        return now.seen.stream().allMatch(row -> now.fell.gives(row[0], i, d) == row[1]);
    }

    int which(int i) {
        if (!isWhistle(i)) {
            return bad();
        }
        int bits = 0;
        for (int d = 0; d < 5; d++) {
            bits += allSeenBy(i, d) ? 1 << d : 0;
        }
        return bits;
    }

    int whose(int k) {
        if (k < -1) {
            return bad(-10);
        }
        List<Integer> pairs = new ArrayList<>();
        for (int pair = 0; pair < 30; pair++) {
            if (isWhistle(pair / 10) && pair % 10 < 5 && allSeenBy(pair / 10, pair % 10)) {
                pairs.add(pair);
            }
        }
        return kth(pairs, k);
    }

    private static int kth(List<Integer> all, int k) {
        if (k == -1) {
            return all.size();
        }
        return k < all.size() ? all.get(k) : -5;
    }

    private static int most(List<Integer> answers) {
        Map<Integer, Integer> many = new HashMap<>();
        int most = 0;
        for (int answer : answers) {
            most = Math.max(most, many.merge(answer, 1, Integer::sum));
        }
        return most;
    }

    int tell(int i) {
        if (!isWhistle(i)) {
            return bad();
        }
        int best = -1;
        int fewest = 99;
        for (int s = 0; s < now.fell.sheep.length; s++) {
            List<Integer> cells = new ArrayList<>();
            for (int d = 0; d < 5; d++) {
                if (allSeenBy(i, d)) {
                    cells.add(now.fell.gives(s, i, d));
                }
            }
            if (!cells.isEmpty() && most(cells) < fewest) {
                fewest = most(cells);
                best = s;
            }
        }
        return best;
    }

    int note(int i, int t, int x) {
        return isWhistle(i) && in(t, 0, 99) && in(x, 0, 20) ? added(now.notes, 6, i, t, x) : bad();
    }

    int mark(int s, int f, int x) {
        return isSheep(s) && in(f, 0, 8) && in(x, 0, 9) ? added(now.marks, 6, s, f, x) : bad();
    }

    int forget(int what) {
        if (!in(what, 0, 2)) {
            return bad();
        }
        List<int[]> rows = Arrays.asList(now.seen, now.notes, now.marks).get(what);
        int were = rows.size();
        rows.clear();
        return were;
    }

    private static int measure(boolean ofSheep, int kind, int at) {
        return ofSheep ? SHEEP[kind].gives(at) : WHISTLES[kind].goes(at);
    }

    private List<Integer> kindsThatFit(boolean ofSheep, int who) {
        List<Integer> fitting = new ArrayList<>();
        for (int kind = 0; kind < 6; kind++) {
            boolean fits = true;
            for (int[] row : ofSheep ? now.marks : now.notes) {
                fits &= row[0] != who || measure(ofSheep, kind, row[1]) == row[2];
            }
            if (fits) {
                fitting.add(kind);
            }
        }
        return fitting;
    }

    private int bits(boolean ofSheep, int who) {
        int bits = 0;
        for (int kind : kindsThatFit(ofSheep, who)) {
            bits |= 1 << kind;
        }
        return bits;
    }

    private int parting(boolean ofSheep, int who, int last) {
        int best = -1;
        int fewest = 99;
        List<Integer> fitting = kindsThatFit(ofSheep, who);
        for (int at = 0; at <= last && !fitting.isEmpty(); at++) {
            List<Integer> answers = new ArrayList<>();
            for (int kind : fitting) {
                answers.add(measure(ofSheep, kind, at));
            }
            if (most(answers) < fewest) {
                fewest = most(answers);
                best = at;
            }
        }
        return best;
    }

    int is(int i) {
        return isWhistle(i) ? bits(false, i) : bad();
    }

    int look(int i) {
        return isWhistle(i) ? parting(false, i, 29) : bad();
    }

    int kinds(int s) {
        return isSheep(s) ? bits(true, s) : bad();
    }

    int ask(int s) {
        return isSheep(s) ? parting(true, s, 8) : bad();
    }

    private int[] gains(int a, int i, int b, int j) {
        int folded = Integer.bitCount(now.fell.call(a, i).call(b, j).folded());
        int[] gains = {folded, now.fell.sheep.length - folded};
        gains[0] -= i != 4 ? 1 : 0;
        gains[1] -= j != 4 ? 1 : 0;
        return gains;
    }

    int shepherds(int a, int b, int k) {
        if (!isWhistle(a) || !isWhistle(b) || a == b || k < -1) {
            return bad(-10);
        }
        List<Integer> pairs = new ArrayList<>();
        for (int i = 0; i < 5; i++) {
            for (int j = 0; j < 5; j++) {
                int[] gains = gains(a, i, b, j);
                boolean rests = true;
                for (int other = 0; other < 5; other++) {
                    rests &= gains(a, other, b, j)[0] <= gains[0] && gains(a, i, b, other)[1] <= gains[1];
                }
                if (rests) {
                    pairs.add(10 * i + j);
                }
            }
        }
        return kth(pairs, k);
    }

    int misheard(int s, int i, int d, int e, int c) {
        if (!isSheep(s) || !isWhistle(i) || !in(d, 0, 4) || !in(e, 0, 4) || !in(c, 0, 10)) {
            return bad();
        }
        int[] heard = {d, d == 4 ? 0 : d + 1, e, e == 4 ? 0 : e + 1};
        int[] tenths = {10 - c, c};
        above = 0;
        below = 100;
        for (int first = 0; first < 2; first++) {
            for (int second = 0; second < 2; second++) {
                Fell then = now.fell.call(i, heard[first]).call(i, heard[2 + second]);
                above += then.sheep[s][1] == then.fold ? tenths[first] * tenths[second] : 0;
            }
        }
        for (int by : new int[] {2, 2, 5, 5}) {
            if (above % by == 0 && below % by == 0) {
                above /= by;
                below /= by;
            }
        }
        return 1;
    }

    int winters(int seed, int n) {
        if (!in(seed, 0, 999999) || !in(n, 0, 60)) {
            return bad();
        }
        Fell then = now.fell;
        java.math.BigInteger x = java.math.BigInteger.valueOf(seed);
        for (int gone = 0; gone < n; gone++) {
            x = x.multiply(java.math.BigInteger.valueOf(1103515245)).add(java.math.BigInteger.valueOf(12345));
            x = x.mod(java.math.BigInteger.valueOf(2147483648L));
            int i = (int) (x.longValue() / 65536 % 3);
            int d = (int) (x.longValue() / 1048576 % 5);
            then = i < then.whistles.length ? then.call(i, d) : then.wait(1);
        }
        return Integer.bitCount(then.folded());
    }

    long part(int what) {
        return what == 0 ? above : what == 1 ? below : bad();
    }

    int image(int i) {
        if (!in(i, 0, 1)) {
            return bad();
        }
        images[i] = now.copy();
        return 1;
    }

    int from(int i) {
        if (!in(i, 0, 1)) {
            return bad();
        }
        if (images[i] == null) {
            return no();
        }
        now = images[i].copy();
        return 1;
    }

    int status(int what) {
        return in(what, 0, 2) ? refused[what] : bad(-1);
    }

    private int[] counts() {
        return new int[] {now.fell.sheep.length, now.fell.whistles.length, now.fell.step, now.fell.fold,
            Integer.bitCount(now.fell.folded()), now.seen.size(), now.notes.size(), now.marks.size(),
            now.past.size(), text.length()};
    }

    int count(int what) {
        return in(what, 0, 9) ? counts()[what] : bad();
    }

    long digest() {
        List<int[]> all = new ArrayList<>();
        all.add(counts());
        all.addAll(Arrays.asList(now.fell.whistles));
        all.addAll(Arrays.asList(now.fell.sheep));
        all.addAll(now.seen);
        all.addAll(now.notes);
        all.addAll(now.marks);
        all.add(new int[] {above, below});
        long h = 1669;
        for (int[] row : all) {
            for (int v : row) {
                h = 31 * h + v;
            }
        }
        return h;
    }
}
