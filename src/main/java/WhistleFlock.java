import java.util.Arrays;

/** A fell of 25 cells with a fold, the whistles that are worked on it as dogs, and the sheep that give way. */
public final class WhistleFlock {
    public static final int NONE = -1, BAD = -2, NO = -3, FULL = -4;

    private static final int NOT_SO_MANY = -5, NO_ROW = -6, BAD_TOO = -10, FAULT = -10;

    private static final int SIDE = 5, CELLS = 25;
    private static final int UP = 0, ON = 1, DOWN = 2, BACK = 3, LIE = 4, CALLS = 5;
    private static final int LONG = 1, LIP = 2, TEMPER = 3, KETTLE = 4, OLD = 5;
    private static final int LAMB = 1, RAM = 2, TOURIST = 3, HOGG = 4, STRAY = 5;
    private static final int KINDS = 6;
    private static final int MOST_WHISTLES = 3, MOST_SHEEP = 7;
    private static final int LAST_STEP = 9999, MOST_STEPS = 99, OLD_FROM = 20;

    private static final int MOST_SEEN = 5, MOST_NOTES = 6, MOST_MARKS = 6;
    private static final int MOST_ROWS = 6, ROW_WIDTH = 3;
    private static final int LAST_NOTE_STEP = 99, MOST_NOTED = 20, LOOKS = 30;
    private static final int LAST_MARK_FAR = 8, MOST_MARKED = 9, ASKS = 9;

    private static final int MOST_UNDONE = 8, PAST_WIDTH = 1 + MOST_WHISTLES + MOST_SHEEP;
    private static final int MOST_DRIVE = 10, DRIVE_COUNT = -2;
    private static final int MOST_BYTES = 150, LAST_BYTE = 127;
    private static final int IMAGES = 2, COUNTS = 10;
    private static final int TENTHS = 10, HUNDREDTHS = 100;

    private static final int LAST_SEED = 999999, LAST_WINTER = 60;
    private static final long SEED_TIMES = 1103515245L, SEED_MORE = 12345L, SEED_BY = 2147483648L;
    private static final long WHOM_BY = 65536L, WHAT_BY = 1048576L;

    private static final long DIGEST_FIRST = 1669L, DIGEST_TIMES = 31L;

    private final State now = new State();
    private final State told = new State();
    private final State[] images = {new State(), new State()};
    private final boolean[] kept = new boolean[IMAGES];
    private final Script script = new Script();
    private final Drive search = new Drive();
    private final Herd trial = new Herd();
    private final Herd secondTrial = new Herd();
    private final Herd thirdTrial = new Herd();
    private final int[] answers = new int[KINDS];
    private final int[] scores = new int[LOOKS];
    private final int[] foldedBy = new int[CALLS * CALLS];
    private int above;
    private int below = 1;
    private int refusedBad;
    private int refusedNo;
    private int refusedFull;

    public WhistleFlock() {
    }

    // ---- a fell

    public int fell(int c) {
        if (!isCell(c)) {
            return refuseBad(BAD);
        }
        int there = now.herd.flock;
        now.begin(c);
        return there;
    }

    public int whistle(int kind, int c) {
        if (!isKind(kind) || !isCell(c)) {
            return refuseBad(BAD);
        }
        if (now.herd.whistles >= MOST_WHISTLES) {
            return refuseFull();
        }
        now.past.size = 0;
        return now.herd.addWhistle(kind, c);
    }

    public int sheep(int kind, int c) {
        if (!isKind(kind) || !isCell(c)) {
            return refuseBad(BAD);
        }
        if (now.herd.flock >= MOST_SHEEP) {
            return refuseFull();
        }
        now.past.size = 0;
        return now.herd.addSheep(kind, c);
    }

    public int fold(int c) {
        if (!isCell(c)) {
            return refuseBad(BAD);
        }
        if (c == now.foldCell) {
            return refuseNo();
        }
        int was = now.foldCell;
        now.foldCell = c;
        now.past.size = 0;
        return was;
    }

    public int type(int c) {
        if (!isWithin(c, 0, LAST_BYTE)) {
            return refuseBad(BAD);
        }
        if (script.size >= MOST_BYTES) {
            return refuseFull();
        }
        script.add(c);
        return script.size;
    }

    public int clear() {
        int had = script.size;
        script.size = 0;
        return had;
    }

    public int read() {
        int items = script.carryOut(told);
        if (items >= 0) {
            now.copy(told);
        }
        return items;
    }

    // ---- calls

    public int calls(int i, int d) {
        if (!now.herd.hasWhistle(i) || !isCall(d)) {
            return refuseBad(BAD);
        }
        if (now.herd.step >= LAST_STEP) {
            return refuseNo();
        }
        now.past.push(now.herd);
        return now.herd.call(i, d);
    }

    public int steps(int n) {
        if (!isWithin(n, 1, MOST_STEPS)) {
            return refuseBad(BAD);
        }
        now.past.push(now.herd);
        now.herd.step = Math.min(LAST_STEP, now.herd.step + n);
        return now.herd.step;
    }

    public int undo() {
        if (now.past.size == 0) {
            return refuseNo();
        }
        now.past.pop(now.herd);
        return now.herd.step;
    }

    public int of(int i, int what) {
        if (!now.herd.hasWhistle(i) || !isWithin(what, 0, 2)) {
            return refuseBad(BAD);
        }
        if (what == 0) {
            return now.herd.whistleKind[i];
        }
        return what == 1 ? now.herd.whistleCell[i] : now.herd.reach(i);
    }

    public int about(int s, int what) {
        if (!now.herd.hasSheep(s) || !isWithin(what, 0, 2)) {
            return refuseBad(BAD);
        }
        if (what == 0) {
            return now.herd.sheepKind[s];
        }
        int cell = now.herd.sheepCell[s];
        return what == 1 ? cell : farBetween(cell, now.foldCell);
    }

    // ---- whither

    public int goes(int i, int d) {
        if (!now.herd.hasWhistle(i) || !isCall(d)) {
            return refuseBad(BAD);
        }
        return now.herd.whistleTo(i, d);
    }

    public int gives(int s, int i, int d) {
        if (!now.herd.hasSheep(s) || !now.herd.hasWhistle(i) || !isCall(d)) {
            return refuseBad(BAD);
        }
        return now.herd.sheepTo(s, i, d);
    }

    public int folded() {
        return now.herd.sheepIn(now.foldCell);
    }

    public int drive(int s, int i, int c, int k) {
        boolean isPlace = k == DRIVE_COUNT || k >= 0;
        if (!now.herd.hasSheep(s) || !now.herd.hasWhistle(i) || !isCell(c) || !isPlace) {
            return refuseBad(BAD_TOO);
        }
        int length = search.shortest(now.herd, s, i, c);
        if (length == NO_ROW || k == DRIVE_COUNT) {
            return length;
        }
        return k < length ? search.callAt(k, length, c) : NOT_SO_MANY;
    }

    public int near(int i, int what) {
        if (!now.herd.hasWhistle(i) || !isWithin(what, 0, 1)) {
            return refuseBad(BAD);
        }
        for (int d = 0; d < CALLS; d++) {
            trial.copy(now.herd);
            trial.call(i, d);
            scores[d] = trial.farTogether(now.foldCell);
        }
        int best = firstLeast(scores, CALLS);
        return what == 0 ? best : scores[best];
    }

    public int gather(int i, int what) {
        if (!now.herd.hasWhistle(i) || !isWithin(what, 0, 1)) {
            return refuseBad(BAD);
        }
        int most = -1;
        int row = 0;
        for (int three = 0; three < CALLS * CALLS * CALLS; three++) {
            int many = foldedByThree(i, three);
            if (many > most) {
                most = many;
                row = three;
            }
        }
        return what == 0 ? most : 100 * firstOf(row) + 10 * secondOf(row) + thirdOf(row);
    }

    // ---- which call it was

    public int seen(int s, int c) {
        if (!now.herd.hasSheep(s) || !isCell(c)) {
            return refuseBad(BAD);
        }
        return addTo(now.sights, s, c, 0);
    }

    public int which(int i) {
        return now.herd.hasWhistle(i) ? fittingCalls(i) : refuseBad(BAD);
    }

    public int whose(int k) {
        if (k < NONE) {
            return refuseBad(BAD_TOO);
        }
        int many = 0;
        for (int i = 0; i < now.herd.whistles; i++) {
            int fitting = fittingCalls(i);
            for (int d = 0; d < CALLS; d++) {
                if (hasBit(fitting, d)) {
                    if (many == k) {
                        return 10 * i + d;
                    }
                    many++;
                }
            }
        }
        return k == NONE ? many : NOT_SO_MANY;
    }

    public int tell(int i) {
        if (!now.herd.hasWhistle(i)) {
            return refuseBad(BAD);
        }
        int fitting = fittingCalls(i);
        if (fitting == 0 || now.herd.flock == 0) {
            return NONE;
        }
        for (int s = 0; s < now.herd.flock; s++) {
            scores[s] = mostToOneCell(s, i, fitting);
        }
        return firstLeast(scores, now.herd.flock);
    }

    public int note(int i, int t, int x) {
        if (!now.herd.hasWhistle(i) || !isWithin(t, 0, LAST_NOTE_STEP) || !isWithin(x, 0, MOST_NOTED)) {
            return refuseBad(BAD);
        }
        return addTo(now.notes, i, t, x);
    }

    public int mark(int s, int f, int x) {
        if (!now.herd.hasSheep(s) || !isWithin(f, 0, LAST_MARK_FAR) || !isWithin(x, 0, MOST_MARKED)) {
            return refuseBad(BAD);
        }
        return addTo(now.marks, s, f, x);
    }

    public int forget(int what) {
        if (!isWithin(what, 0, 2)) {
            return refuseBad(BAD);
        }
        Rows rows = now.sights;
        if (what != 0) {
            rows = what == 1 ? now.notes : now.marks;
        }
        int were = rows.size;
        rows.size = 0;
        return were;
    }

    public int is(int i) {
        return now.herd.hasWhistle(i) ? fittingKinds(false, i) : refuseBad(BAD);
    }

    public int look(int i) {
        if (!now.herd.hasWhistle(i)) {
            return refuseBad(BAD);
        }
        return partingKindsBest(false, fittingKinds(false, i), LOOKS);
    }

    public int kinds(int s) {
        return now.herd.hasSheep(s) ? fittingKinds(true, s) : refuseBad(BAD);
    }

    public int ask(int s) {
        if (!now.herd.hasSheep(s)) {
            return refuseBad(BAD);
        }
        return partingKindsBest(true, fittingKinds(true, s), ASKS);
    }

    public int shepherds(int a, int b, int k) {
        if (!now.herd.hasWhistle(a) || !now.herd.hasWhistle(b) || a == b || k < NONE) {
            return refuseBad(BAD_TOO);
        }
        foldByBoth(a, b);
        int many = 0;
        for (int i = 0; i < CALLS; i++) {
            for (int j = 0; j < CALLS; j++) {
                if (rests(i, j)) {
                    if (many == k) {
                        return 10 * i + j;
                    }
                    many++;
                }
            }
        }
        return k == NONE ? many : NOT_SO_MANY;
    }

    public int misheard(int s, int i, int d, int e, int c) {
        if (!now.herd.hasSheep(s) || !now.herd.hasWhistle(i) || !isCall(d) || !isCall(e) || !isWithin(c, 0, TENTHS)) {
            return refuseBad(BAD);
        }
        int hundredths = 0;
        for (int heard = 0; heard < 4; heard++) {
            int wrongFirst = heard / 2;
            int wrongSecond = heard % 2;
            int chance = (wrongFirst == 1 ? c : TENTHS - c) * (wrongSecond == 1 ? c : TENTHS - c);
            if (isFoldedByTwo(s, i, (d + wrongFirst) % CALLS, (e + wrongSecond) % CALLS)) {
                hundredths += chance;
            }
        }
        keepFraction(hundredths);
        return 1;
    }

    public int winters(int seed, int n) {
        if (!isWithin(seed, 0, LAST_SEED) || !isWithin(n, 0, LAST_WINTER)) {
            return refuseBad(BAD);
        }
        trial.copy(now.herd);
        long x = seed;
        for (int gone = 0; gone < n; gone++) {
            x = (x * SEED_TIMES + SEED_MORE) % SEED_BY;
            int i = (int) (x / WHOM_BY % MOST_WHISTLES);
            int d = (int) (x / WHAT_BY % CALLS);
            if (trial.hasWhistle(i)) {
                trial.call(i, d);
            } else {
                trial.step++;
            }
        }
        return trial.manyIn(now.foldCell);
    }

    // ---- what there is

    public long part(int what) {
        if (!isWithin(what, 0, 1)) {
            return refuseBad(BAD);
        }
        return what == 0 ? above : below;
    }

    public int image(int i) {
        if (!isImage(i)) {
            return refuseBad(BAD);
        }
        images[i].copy(now);
        kept[i] = true;
        return 1;
    }

    public int from(int i) {
        if (!isImage(i)) {
            return refuseBad(BAD);
        }
        if (!kept[i]) {
            return refuseNo();
        }
        now.copy(images[i]);
        return 1;
    }

    public int status(int what) {
        switch (what) {
            case 0: return refusedBad;
            case 1: return refusedNo;
            case 2: return refusedFull;
            default: return refuseBad(-1);
        }
    }

    public int count(int what) {
        return isWithin(what, 0, COUNTS - 1) ? howMany(what) : refuseBad(BAD);
    }

    public long digest() {
        long h = DIGEST_FIRST;
        for (int what = 0; what < COUNTS; what++) {
            h = digested(h, howMany(what));
        }
        for (int i = 0; i < now.herd.whistles; i++) {
            h = digested(digested(h, now.herd.whistleKind[i]), now.herd.whistleCell[i]);
        }
        for (int s = 0; s < now.herd.flock; s++) {
            h = digested(digested(h, now.herd.sheepKind[s]), now.herd.sheepCell[s]);
        }
        h = digestedRows(h, now.sights);
        h = digestedRows(h, now.notes);
        h = digestedRows(h, now.marks);
        return digested(digested(h, above), below);
    }

    // ---- what is refused

    private int refuseBad(int answer) {
        refusedBad++;
        return answer;
    }

    private int refuseNo() {
        refusedNo++;
        return NO;
    }

    private int refuseFull() {
        refusedFull++;
        return FULL;
    }

    private static boolean isWithin(int x, int least, int most) {
        return x >= least && x <= most;
    }

    private static boolean isCell(int c) {
        return isWithin(c, 0, CELLS - 1);
    }

    private static boolean isKind(int kind) {
        return isWithin(kind, 0, KINDS - 1);
    }

    private static boolean isCall(int d) {
        return isWithin(d, 0, CALLS - 1);
    }

    private static boolean isImage(int i) {
        return isWithin(i, 0, IMAGES - 1);
    }

    // ---- how far the kinds go and give way

    private static int whistleReach(int kind, int t) {
        int plain = 1;
        int longer = plain + 1;
        int lip = t % 3 == 0 ? 0 : plain;
        switch (kind) {
            case LONG: return longer;
            case LIP: return lip;
            case TEMPER: return t % 5 == 0 ? 2 * longer : longer;
            case KETTLE: return t % 2 == 1 ? plain + 1 : plain;
            case OLD: return t >= OLD_FROM ? lip + 1 : lip;
            default: return plain;
        }
    }

    private static int sheepReach(int kind, int f) {
        int ewe = f <= 1 ? 1 : 0;
        int lamb = f == 0 ? ewe + 2 : ewe;
        int hogg = f <= 2 ? ewe + 1 : ewe;
        switch (kind) {
            case LAMB: return lamb;
            case RAM: return f == 0 ? ewe : 0;
            case TOURIST: return f <= 3 ? Math.max(1, lamb) : lamb;
            case HOGG: return hogg;
            case STRAY: return Math.min(3, 2 * hogg);
            default: return ewe;
        }
    }

    // A whistle's reach hangs on the step, a sheep's on how far off the whistle is.
    private static int kindReach(boolean isSheep, int kind, int at) {
        return isSheep ? sheepReach(kind, at) : whistleReach(kind, at);
    }

    // ---- cells

    private static int farBetween(int a, int b) {
        return Math.abs(a / SIDE - b / SIDE) + Math.abs(a % SIDE - b % SIDE);
    }

    private static int moved(int cell, int way, int cells) {
        int row = cell / SIDE;
        int column = cell % SIDE;
        switch (way) {
            case UP:
                row = Math.max(0, row - cells);
                break;
            case ON:
                column = Math.min(SIDE - 1, column + cells);
                break;
            case DOWN:
                row = Math.min(SIDE - 1, row + cells);
                break;
            case BACK:
                column = Math.max(0, column - cells);
                break;
            default:
                break;
        }
        return SIDE * row + column;
    }

    private static int wayFrom(int sheepCell, int whistleCell) {
        int rows = sheepCell / SIDE - whistleCell / SIDE;
        int columns = sheepCell % SIDE - whistleCell % SIDE;
        if (rows != 0 && Math.abs(rows) >= Math.abs(columns)) {
            return rows > 0 ? DOWN : UP;
        }
        return columns >= 0 ? ON : BACK;
    }

    private static int givenWay(int kind, int sheepCell, int whistleCell) {
        int cells = sheepReach(kind, farBetween(sheepCell, whistleCell));
        return cells == 0 ? sheepCell : moved(sheepCell, wayFrom(sheepCell, whistleCell), cells);
    }

    // ---- calls tried

    // A row of three calls is one number of three figures to the base of CALLS: rising numbers are rising rows.
    private static int firstOf(int three) {
        return three / (CALLS * CALLS);
    }

    private static int secondOf(int three) {
        return three / CALLS % CALLS;
    }

    private static int thirdOf(int three) {
        return three % CALLS;
    }

    // Rows that begin alike come one behind the other: what they share is called but once.
    private int foldedByThree(int i, int three) {
        if (three % (CALLS * CALLS) == 0) {
            trial.copy(now.herd);
            trial.call(i, firstOf(three));
        }
        if (three % CALLS == 0) {
            secondTrial.copy(trial);
            secondTrial.call(i, secondOf(three));
        }
        thirdTrial.copy(secondTrial);
        thirdTrial.call(i, thirdOf(three));
        return thirdTrial.manyIn(now.foldCell);
    }

    private boolean isFoldedByTwo(int s, int i, int d, int e) {
        trial.copy(now.herd);
        trial.call(i, d);
        trial.call(i, e);
        return hasBit(trial.sheepIn(now.foldCell), s);
    }

    private void foldByBoth(int a, int b) {
        for (int i = 0; i < CALLS; i++) {
            trial.copy(now.herd);
            trial.call(a, i);
            for (int j = 0; j < CALLS; j++) {
                secondTrial.copy(trial);
                secondTrial.call(b, j);
                foldedBy[CALLS * i + j] = secondTrial.manyIn(now.foldCell);
            }
        }
    }

    private int gainOfFirst(int i, int j) {
        return foldedBy[CALLS * i + j] - (i == LIE ? 0 : 1);
    }

    private int gainOfSecond(int i, int j) {
        return now.herd.flock - foldedBy[CALLS * i + j] - (j == LIE ? 0 : 1);
    }

    private boolean rests(int i, int j) {
        for (int other = 0; other < CALLS; other++) {
            if (gainOfFirst(other, j) > gainOfFirst(i, j) || gainOfSecond(i, other) > gainOfSecond(i, j)) {
                return false;
            }
        }
        return true;
    }

    private void keepFraction(int hundredths) {
        int by = HUNDREDTHS;
        while (by > 1 && (hundredths % by != 0 || HUNDREDTHS % by != 0)) {
            by--;
        }
        above = hundredths / by;
        below = HUNDREDTHS / by;
    }

    // ---- what fits

    private int addTo(Rows rows, int a, int b, int c) {
        if (rows.size >= rows.most) {
            return refuseFull();
        }
        rows.add(a, b, c);
        return rows.size;
    }

    private int fittingCalls(int i) {
        int fitting = 0;
        for (int d = 0; d < CALLS; d++) {
            if (fitsSights(i, d)) {
                fitting |= 1 << d;
            }
        }
        return fitting;
    }

    private boolean fitsSights(int i, int d) {
        for (int row = 0; row < now.sights.size; row++) {
            if (now.herd.sheepTo(now.sights.get(row, 0), i, d) != now.sights.get(row, 1)) {
                return false;
            }
        }
        return true;
    }

    private int fittingKinds(boolean areSheep, int who) {
        Rows rows = areSheep ? now.marks : now.notes;
        int fitting = 0;
        for (int kind = 0; kind < KINDS; kind++) {
            if (fitsRows(rows, who, areSheep, kind)) {
                fitting |= 1 << kind;
            }
        }
        return fitting;
    }

    private static boolean fitsRows(Rows rows, int who, boolean areSheep, int kind) {
        for (int row = 0; row < rows.size; row++) {
            boolean isSo = kindReach(areSheep, kind, rows.get(row, 1)) == rows.get(row, 2);
            if (rows.get(row, 0) == who && !isSo) {
                return false;
            }
        }
        return true;
    }

    private int mostToOneCell(int s, int i, int fitting) {
        int many = 0;
        for (int d = 0; d < CALLS; d++) {
            if (hasBit(fitting, d)) {
                answers[many] = now.herd.sheepTo(s, i, d);
                many++;
            }
        }
        return mostAlike(answers, many);
    }

    private int partingKindsBest(boolean areSheep, int fitting, int places) {
        if (fitting == 0) {
            return NONE;
        }
        int end = Math.min(places, scores.length);
        for (int at = 0; at < end; at++) {
            scores[at] = mostKindsAlike(areSheep, fitting, at);
        }
        return firstLeast(scores, end);
    }

    private int mostKindsAlike(boolean areSheep, int fitting, int at) {
        int many = 0;
        for (int kind = 0; kind < KINDS; kind++) {
            if (hasBit(fitting, kind)) {
                answers[many] = kindReach(areSheep, kind, at);
                many++;
            }
        }
        return mostAlike(answers, many);
    }

    private static int mostAlike(int[] row, int many) {
        int end = Math.min(many, row.length);
        int most = 0;
        for (int first = 0; first < end; first++) {
            int alike = 0;
            for (int other = 0; other < end; other++) {
                if (row[other] == row[first]) {
                    alike++;
                }
            }
            most = Math.max(most, alike);
        }
        return most;
    }

    private static int firstLeast(int[] row, int many) {
        int end = Math.min(many, row.length);
        int best = 0;
        for (int place = 1; place < end; place++) {
            if (row[place] < row[best]) {
                best = place;
            }
        }
        return best;
    }

    private static boolean hasBit(int bits, int place) {
        return (bits >> place & 1) == 1;
    }

    // ---- counts

    private int howMany(int what) {
        switch (what) {
            case 0: return now.herd.flock;
            case 1: return now.herd.whistles;
            case 2: return now.herd.step;
            case 3: return now.foldCell;
            case 4: return now.herd.manyIn(now.foldCell);
            case 5: return now.sights.size;
            case 6: return now.notes.size;
            case 7: return now.marks.size;
            case 8: return now.past.size;
            default: return script.size;
        }
    }

    private static long digested(long h, long v) {
        return DIGEST_TIMES * h + v;
    }

    private static long digestedRows(long h, Rows rows) {
        long sum = h;
        for (int row = 0; row < rows.size; row++) {
            for (int column = 0; column < rows.width; column++) {
                sum = digested(sum, rows.get(row, column));
            }
        }
        return sum;
    }

    /** Whistles and sheep, where they are, and the step that it is. */
    private static final class Herd {
        final int[] whistleKind = new int[MOST_WHISTLES];
        final int[] whistleCell = new int[MOST_WHISTLES];
        final int[] sheepKind = new int[MOST_SHEEP];
        final int[] sheepCell = new int[MOST_SHEEP];
        int whistles;
        int flock;
        int step;

        void empty() {
            whistles = 0;
            flock = 0;
            step = 0;
        }

        void copy(Herd other) {
            System.arraycopy(other.whistleKind, 0, whistleKind, 0, MOST_WHISTLES);
            System.arraycopy(other.whistleCell, 0, whistleCell, 0, MOST_WHISTLES);
            System.arraycopy(other.sheepKind, 0, sheepKind, 0, MOST_SHEEP);
            System.arraycopy(other.sheepCell, 0, sheepCell, 0, MOST_SHEEP);
            whistles = other.whistles;
            flock = other.flock;
            step = other.step;
        }

        boolean hasWhistle(int i) {
            return isWithin(i, 0, whistles - 1);
        }

        boolean hasSheep(int s) {
            return isWithin(s, 0, flock - 1);
        }

        int addWhistle(int kind, int cell) {
            if (whistles >= MOST_WHISTLES) {
                return FULL;
            }
            whistleKind[whistles] = kind;
            whistleCell[whistles] = cell;
            whistles++;
            return whistles - 1;
        }

        int addSheep(int kind, int cell) {
            if (flock >= MOST_SHEEP) {
                return FULL;
            }
            sheepKind[flock] = kind;
            sheepCell[flock] = cell;
            flock++;
            return flock - 1;
        }

        int reach(int i) {
            return hasWhistle(i) ? whistleReach(whistleKind[i], step) : 0;
        }

        int whistleTo(int i, int d) {
            return hasWhistle(i) ? moved(whistleCell[i], d, whistleReach(whistleKind[i], step)) : 0;
        }

        int sheepTo(int s, int i, int d) {
            return hasSheep(s) ? givenWay(sheepKind[s], sheepCell[s], whistleTo(i, d)) : 0;
        }

        /** Answers how many sheep went elsewhere. */
        int call(int i, int d) {
            int elsewhere = 0;
            if (hasWhistle(i)) {
                whistleCell[i] = whistleTo(i, d);
                for (int s = 0; s < flock; s++) {
                    int cell = givenWay(sheepKind[s], sheepCell[s], whistleCell[i]);
                    if (cell != sheepCell[s]) {
                        elsewhere++;
                    }
                    sheepCell[s] = cell;
                }
            }
            step++;
            return elsewhere;
        }

        int sheepIn(int cell) {
            int bits = 0;
            for (int s = 0; s < flock; s++) {
                if (sheepCell[s] == cell) {
                    bits |= 1 << s;
                }
            }
            return bits;
        }

        int manyIn(int cell) {
            return Integer.bitCount(sheepIn(cell));
        }

        int farTogether(int cell) {
            int far = 0;
            for (int s = 0; s < flock; s++) {
                far += farBetween(sheepCell[s], cell);
            }
            return far;
        }
    }

    /** What an image keeps. */
    private static final class State {
        final Herd herd = new Herd();
        final Rows sights = new Rows(MOST_SEEN, 2);
        final Rows notes = new Rows(MOST_NOTES, 3);
        final Rows marks = new Rows(MOST_MARKS, 3);
        final Past past = new Past();
        int foldCell;

        void begin(int cell) {
            herd.empty();
            sights.size = 0;
            notes.size = 0;
            marks.size = 0;
            past.size = 0;
            foldCell = cell;
        }

        void copy(State other) {
            herd.copy(other.herd);
            sights.copy(other.sights);
            notes.copy(other.notes);
            marks.copy(other.marks);
            past.copy(other.past);
            foldCell = other.foldCell;
        }
    }

    /** Rows of two or three numbers, in the order in which they came. */
    private static final class Rows {
        final int most;
        final int width;
        final int[] numbers = new int[MOST_ROWS * ROW_WIDTH];
        int size;

        Rows(int most, int width) {
            this.most = Math.min(most, MOST_ROWS);
            this.width = Math.min(width, ROW_WIDTH);
        }

        void add(int a, int b, int c) {
            if (size < most) {
                numbers[ROW_WIDTH * size] = a;
                numbers[ROW_WIDTH * size + 1] = b;
                numbers[ROW_WIDTH * size + 2] = c;
                size++;
            }
        }

        int get(int row, int column) {
            boolean isThere = isWithin(row, 0, size - 1) && isWithin(column, 0, width - 1);
            return isThere ? numbers[ROW_WIDTH * row + column] : 0;
        }

        void copy(Rows other) {
            System.arraycopy(other.numbers, 0, numbers, 0, MOST_ROWS * ROW_WIDTH);
            size = other.size;
        }
    }

    /** Where all were ahead of the last calls; each entry is the step, the whistles' cells, the sheep's cells. */
    private static final class Past {
        final int[] numbers = new int[MOST_UNDONE * PAST_WIDTH];
        int size;

        void push(Herd herd) {
            if (size >= MOST_UNDONE) {
                System.arraycopy(numbers, PAST_WIDTH, numbers, 0, (MOST_UNDONE - 1) * PAST_WIDTH);
                size = MOST_UNDONE - 1;
            }
            int start = size * PAST_WIDTH;
            numbers[start] = herd.step;
            System.arraycopy(herd.whistleCell, 0, numbers, start + 1, MOST_WHISTLES);
            System.arraycopy(herd.sheepCell, 0, numbers, start + 1 + MOST_WHISTLES, MOST_SHEEP);
            size++;
        }

        void pop(Herd herd) {
            if (size > 0) {
                size--;
                int start = size * PAST_WIDTH;
                herd.step = numbers[start];
                System.arraycopy(numbers, start + 1, herd.whistleCell, 0, MOST_WHISTLES);
                System.arraycopy(numbers, start + 1 + MOST_WHISTLES, herd.sheepCell, 0, MOST_SHEEP);
            }
        }

        void copy(Past other) {
            System.arraycopy(other.numbers, 0, numbers, 0, MOST_UNDONE * PAST_WIDTH);
            size = other.size;
        }
    }

    /**
     * The shortest row of calls to one whistle that brings one sheep to a cell. How far a whistle goes hangs on the
     * step, so the same places in another step are another state: states are held by step, for each cell of the
     * whistle the sheep's cells as bits.
     */
    private static final class Drive {
        final int[] states = new int[(MOST_DRIVE + 1) * CELLS];
        final int[] joined = new int[CELLS];
        final int[] ways = new int[CELLS * CELLS];
        int waysKind = NONE;
        int whistleKind;
        int firstStep;
        int firstWhistle;
        int firstSheep;

        int shortest(Herd herd, int s, int i, int goal) {
            if (!herd.hasSheep(s) || !herd.hasWhistle(i)) {
                return NO_ROW;
            }
            learnWays(herd.sheepKind[s]);
            whistleKind = herd.whistleKind[i];
            firstStep = herd.step;
            firstWhistle = herd.whistleCell[i];
            firstSheep = herd.sheepCell[s];
            Arrays.fill(states, 0);
            states[firstWhistle] = 1 << firstSheep;
            for (int gone = 0; gone <= MOST_DRIVE; gone++) {
                if (isReached(gone, goal)) {
                    return gone;
                }
                if (gone < MOST_DRIVE) {
                    spread(gone);
                }
            }
            return NO_ROW;
        }

        /** Only behind shortest, with the length that it answered, and with k below it. */
        int callAt(int k, int length, int goal) {
            keepThoseThatArrive(Math.min(length, MOST_DRIVE), goal);
            int whistle = firstWhistle;
            int sheep = firstSheep;
            int called = NONE;
            for (int gone = 0; gone <= k && gone < MOST_DRIVE; gone++) {
                called = firstArriving(gone, whistle, sheep);
                whistle = moved(whistle, called, cellsIn(gone));
                sheep = ways[CELLS * whistle + sheep];
            }
            return called;
        }

        private int firstArriving(int gone, int whistle, int sheep) {
            for (int d = 0; d < CALLS; d++) {
                int to = moved(whistle, d, cellsIn(gone));
                if (hasBit(states[CELLS * (gone + 1) + to], ways[CELLS * to + sheep])) {
                    return d;
                }
            }
            return LIE;
        }

        private void learnWays(int kind) {
            if (kind == waysKind) {
                return;
            }
            for (int place = 0; place < CELLS * CELLS; place++) {
                ways[place] = givenWay(kind, place % CELLS, place / CELLS);
            }
            waysKind = kind;
        }

        private int cellsIn(int gone) {
            return whistleReach(whistleKind, firstStep + gone);
        }

        private boolean isReached(int gone, int goal) {
            for (int whistle = 0; whistle < CELLS; whistle++) {
                if (hasBit(states[CELLS * gone + whistle], goal)) {
                    return true;
                }
            }
            return false;
        }

        private void spread(int gone) {
            int cells = cellsIn(gone);
            Arrays.fill(joined, 0);
            for (int whistle = 0; whistle < CELLS; whistle++) {
                int sheep = states[CELLS * gone + whistle];
                for (int d = 0; sheep != 0 && d < CALLS; d++) {
                    joined[moved(whistle, d, cells)] |= sheep;
                }
            }
            for (int whistle = 0; whistle < CELLS; whistle++) {
                states[CELLS * (gone + 1) + whistle] = allGivenWay(joined[whistle], whistle);
            }
        }

        private int allGivenWay(int sheep, int whistle) {
            int to = 0;
            for (int cell = 0; sheep != 0 && cell < CELLS; cell++) {
                if (hasBit(sheep, cell)) {
                    to |= 1 << ways[CELLS * whistle + cell];
                }
            }
            return to;
        }

        private void keepThoseThatArrive(int length, int goal) {
            for (int whistle = 0; whistle < CELLS; whistle++) {
                states[CELLS * length + whistle] &= 1 << goal;
            }
            for (int gone = length - 1; gone >= 0; gone--) {
                for (int whistle = 0; whistle < CELLS; whistle++) {
                    joined[whistle] = allThatComeTo(states[CELLS * (gone + 1) + whistle], whistle);
                }
                for (int whistle = 0; whistle < CELLS; whistle++) {
                    states[CELLS * gone + whistle] &= joinedAround(whistle, cellsIn(gone));
                }
            }
        }

        private int allThatComeTo(int goals, int whistle) {
            int sheep = 0;
            for (int cell = 0; goals != 0 && cell < CELLS; cell++) {
                if (hasBit(goals, ways[CELLS * whistle + cell])) {
                    sheep |= 1 << cell;
                }
            }
            return sheep;
        }

        private int joinedAround(int whistle, int cells) {
            int sheep = 0;
            for (int d = 0; d < CALLS; d++) {
                sheep |= joined[moved(whistle, d, cells)];
            }
            return sheep;
        }
    }

    /** The text, read token by token; start is the place of the token that stands, the text's length at its end. */
    private static final class Script {
        static final int END = 0, NUMBER = 1, STOP = 2, STRANGE = 3;
        static final int FELL = 4, WHISTLE = 5, SHEEP = 6, CALL = 7, STEPS = 8;
        static final int MOST_FIGURES = 2;

        final byte[] bytes = new byte[MOST_BYTES];
        int size;
        int start;
        int behind;
        int token;
        int value;
        int word;
        int first;
        int second;

        void add(int c) {
            if (size < MOST_BYTES) {
                bytes[size] = (byte) c;
                size++;
            }
        }

        /** Answers how many items there were, or FAULT less the place of the fault. */
        int carryOut(State to) {
            to.begin(0);
            behind = 0;
            next();
            for (int items = 0; items <= MOST_BYTES; items++) {
                if (items > 0 && token == END) {
                    return items;
                }
                if (!takeItem(to.herd, items == 0)) {
                    return FAULT - start;
                }
                carryOutItem(to);
                next();
            }
            return FAULT - start;
        }

        private boolean takeItem(Herd herd, boolean isFirst) {
            word = token;
            if (!mayBegin(herd, isFirst)) {
                return false;
            }
            next();
            if (token != NUMBER || !isFirstNumber(herd)) {
                return false;
            }
            first = value;
            if (word != FELL && word != STEPS) {
                next();
                if (token != NUMBER || !isSecondNumber()) {
                    return false;
                }
                second = value;
            }
            next();
            return token == STOP;
        }

        private boolean mayBegin(Herd herd, boolean isFirst) {
            switch (word) {
                case FELL: return isFirst;
                case WHISTLE: return !isFirst && herd.whistles < MOST_WHISTLES;
                case SHEEP: return !isFirst && herd.flock < MOST_SHEEP;
                case CALL:
                case STEPS: return !isFirst;
                default: return false;
            }
        }

        private boolean isFirstNumber(Herd herd) {
            switch (word) {
                case FELL: return isCell(value);
                case CALL: return herd.hasWhistle(value);
                case STEPS: return isWithin(value, 1, MOST_STEPS);
                default: return isKind(value);
            }
        }

        private boolean isSecondNumber() {
            return word == CALL ? isCall(value) : isCell(value);
        }

        private void carryOutItem(State to) {
            switch (word) {
                case FELL:
                    to.foldCell = first;
                    break;
                case WHISTLE:
                    to.herd.addWhistle(first, second);
                    break;
                case SHEEP:
                    to.herd.addSheep(first, second);
                    break;
                case CALL:
                    to.herd.call(first, second);
                    break;
                default:
                    to.herd.step += first;
                    break;
            }
        }

        private void next() {
            start = behind;
            while (start < size && bytes[start] == ' ') {
                start++;
            }
            behind = start;
            if (start >= size) {
                token = END;
            } else if (isLetter(bytes[start])) {
                takeWord();
            } else if (isFigure(bytes[start])) {
                takeNumber();
            } else {
                token = bytes[start] == ';' ? STOP : STRANGE;
                behind = start + 1;
            }
        }

        private void takeWord() {
            while (behind < size && isLetter(bytes[behind])) {
                behind++;
            }
            token = STRANGE;
            for (int known = FELL; known <= STEPS; known++) {
                if (spells(nameOf(known))) {
                    token = known;
                }
            }
        }

        private void takeNumber() {
            value = 0;
            while (behind < size && isFigure(bytes[behind])) {
                if (behind - start < MOST_FIGURES) {
                    value = 10 * value + bytes[behind] - '0';
                }
                behind++;
            }
            token = behind - start <= MOST_FIGURES ? NUMBER : STRANGE;
        }

        private static boolean isLetter(int c) {
            return isWithin(c, 'a', 'z');
        }

        private static boolean isFigure(int c) {
            return isWithin(c, '0', '9');
        }

        private boolean spells(String name) {
            if (behind - start != name.length()) {
                return false;
            }
            for (int place = 0; place < name.length(); place++) {
                if (bytes[start + place] != name.charAt(place)) {
                    return false;
                }
            }
            return true;
        }

        private static String nameOf(int known) {
            switch (known) {
                case FELL: return "fell";
                case WHISTLE: return "whistle";
                case SHEEP: return "sheep";
                case CALL: return "call";
                default: return "steps";
            }
        }
    }
}
