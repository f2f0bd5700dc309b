import java.util.ArrayList;
import java.util.Arrays;
import java.util.Collections;
import java.util.List;
import java.util.Map;
import java.util.function.Supplier;
import java.util.function.ToLongFunction;

/** The second part of the terms, up to which call gathers most: whither all would come, and rows of calls. */
final class WhitherSentences {
    private static final int LIE = 4;

    private WhitherSentences() {
    }

    static void run() {
        nothingIsChanged();
        askedBehindOthers();
        stepsGoBeyond();
        goes();
        gives();
        folded();
        drive();
        driveCalls();
        driveToEachCell();
        driveOfTheLast();
        driveNone();
        driveNotSoMany();
        driveIsRefused();
        near();
        nearTogether();
        gather();
        gatherOfLikeOnes();
    }

    private static void nothingIsChanged() {
        Sentence s = Sentence.ofTerms(14, "======== 2 (Nothing is changed by these; STEPS go beyond 9999 in them.)");
        for (Supplier<WhistleFlock> scene : Scenes.peopled()) {
            Asks.all().forEach((name, ask) -> same(s, scene, name, ask));
            same(s, () -> behindMisheard(scene), "misheard", x -> x.misheard(0, 0, 1, 2, 3));
        }
    }

    /** What was asked ahead of it makes no difference. */
    private static void askedBehindOthers() {
        Sentence s = Sentence.ofTerms(14, "(Nothing is changed by these;");
        for (Supplier<WhistleFlock> scene : Scenes.peopled()) {
            Map<String, ToLongFunction<WhistleFlock>> asks = Asks.all();
            List<String> names = new ArrayList<>(asks.keySet());
            for (int turn = 0; turn < 2; turn++) {
                WhistleFlock used = scene.get();
                for (String name : names) {
                    long due = asks.get(name).applyAsLong(scene.get());
                    s.due(name + " behind others", asks.get(name).applyAsLong(used), due);
                }
                Collections.reverse(names);
            }
        }
    }

    private static WhistleFlock behindMisheard(Supplier<WhistleFlock> scene) {
        WhistleFlock x = scene.get();
        x.misheard(0, 0, 1, 2, 3);
        return x;
    }

    private static void same(Sentence s, Supplier<WhistleFlock> scene, String what, ToLongFunction<WhistleFlock> call) {
        s.onlyTold(scene, what, call, call.applyAsLong(scene.get()));
    }

    /** In 9999 a temper goes 2, in 10000 it goes 4, in 10001 again 2: into the ram's cell by up and down. */
    private static void stepsGoBeyond() {
        Sentence s = Sentence.ofTerms(17, "STEPS go beyond 9999 in them.");
        s.onlyTold(Scenes::last, "count(2)", x -> x.count(2), 9999);
        s.onlyTold(Scenes::last, "drive(0, 0, 21, -2)", x -> x.drive(0, 0, 21, -2), 2);
        s.onlyTold(Scenes::last, "drive(0, 0, 21, 0)", x -> x.drive(0, 0, 21, 0), 0);
        s.onlyTold(Scenes::last, "drive(0, 0, 21, 1)", x -> x.drive(0, 0, 21, 1), 2);
        s.onlyTold(Scenes::last, "gather(0, 0)", x -> x.gather(0, 0), 1);
        s.onlyTold(Scenes::last, "gather(0, 1)", x -> x.gather(0, 1), 20);
        WhistleFlock x = Scenes.last();
        s.done(x, "misheard(0, 0, 0, 2, 0)", y -> y.misheard(0, 0, 0, 2, 0), 1);
        s.due("part(0)", x.part(0), 1);
        s.onlyTold(Scenes::last, "goes(0, 2)", y -> y.goes(0, 2), 10);
        s.onlyTold(Scenes::last, "near(0, 1)", y -> y.near(0, 1), 3);
        s.onlyTold(WhitherSentences::lastOfOne, "winters(32, 2)", y -> y.winters(32, 2), 1);
        s.onlyTold(WhitherSentences::lastOfTwo, "shepherds(1, 0, -1)", y -> y.shepherds(1, 0, -1), 1);
        s.onlyTold(WhitherSentences::lastOfTwo, "shepherds(1, 0, 0)", y -> y.shepherds(1, 0, 0), 42);
    }

    private static WhistleFlock lastOfOne() {
        WhistleFlock x = Checks.told("fell 21;whistle 3 0;sheep 2 20;");
        Scenes.toStep(x, 9999);
        return x;
    }

    private static WhistleFlock lastOfTwo() {
        WhistleFlock x = Checks.told("fell 20;whistle 3 0;whistle 0 24;sheep 2 20;sheep 2 20;");
        Scenes.toStep(x, 9999);
        return x;
    }

    private static void goes() {
        Sentence s = Sentence.ofTerms(14, "GOES: the CELL to which a WHISTLE would come by a CALL now.");
        Sentence.of(14, "GOES.");
        for (int i = 0; i < 3; i++) {
            for (int d = 0; d <= LIE; d++) {
                WhistleFlock x = Scenes.full();
                int told = x.goes(i, d);
                x.calls(i, d);
                s.due("goes(" + i + ", " + d + ")", told, x.of(i, 1));
            }
        }
        WhistleFlock x = Checks.told("fell 0;whistle 2 12;");
        s.due("goes(0, 1) in step 0", x.goes(0, 1), 12);
        x.steps(1);
        s.due("goes(0, 1) in step 1", x.goes(0, 1), 13);
    }

    private static void gives() {
        Sentence s = Sentence.ofTerms(15, "GIVES: the CELL to which a SHEEP would come by a CALL to a WHISTLE now.");
        Sentence.of(15, "GIVES.");
        for (int i = 0; i < 3; i++) {
            for (int d = 0; d <= LIE; d++) {
                WhistleFlock x = Scenes.full();
                WhistleFlock behind = Scenes.full();
                behind.calls(i, d);
                for (int n = 0; n < 7; n++) {
                    s.due("gives(" + n + ", " + i + ", " + d + ")", x.gives(n, i, d), behind.about(n, 1));
                }
            }
        }
        WhistleFlock x = Checks.told("fell 0;whistle 2 12;sheep 0 14;");
        s.due("gives(0, 0, 1) in step 0", x.gives(0, 0, 1), 14);
        s.due("gives(0, 0, 4) in step 0", x.gives(0, 0, 4), 14);
        WhistleFlock near = Checks.told("fell 0;whistle 2 11;sheep 0 13;steps 1;");
        s.due("gives(0, 0, 1) in step 1", near.gives(0, 0, 1), 14);
        s.due("gives(0, 0, 4) in step 1", near.gives(0, 0, 4), 13);
    }

    private static void folded() {
        Sentence s = Sentence.ofTerms(16, "FOLDED: SHEEP (bits) in THE FOLD.");
        Sentence.of(16, "FOLDED, as bits.");
        WhistleFlock x = new WhistleFlock();
        s.due("nobody there", x.folded(), 0);
        x.fell(24);
        for (int n = 0; n < 7; n++) {
            s.due("with " + n, x.folded(), (1 << n) - 1);
            x.sheep(n % 6, 24);
        }
        s.due("all there", x.folded(), 127);
        x.fold(23);
        s.due("nobody in it", x.folded(), 0);
        WhistleFlock one = Checks.told("fell 3;sheep 0 2;sheep 0 4;sheep 0 8;sheep 0 0;sheep 0 24;sheep 0 13;sheep 0 3;");
        s.due("the last alone", one.folded(), 64);
    }

    /** The whistle is far off in the corner; the ram gives way only if the whistle is in his cell. */
    private static WhistleFlock ram() {
        return Checks.told("fell 0;whistle 0 4;sheep 2 20;");
    }

    private static void driven(Sentence s, Supplier<WhistleFlock> scene, int cell, int... row) {
        s.onlyTold(scene, "drive(0, 0, " + cell + ", -2)", x -> x.drive(0, 0, cell, -2), row.length);
        for (int n = 0; n < row.length; n++) {
            int k = n;
            s.onlyTold(scene, "drive(0, 0, " + cell + ", " + k + ")", x -> x.drive(0, 0, cell, k), row[k]);
        }
    }

    private static void drive() {
        Sentence s = Sentence.ofTerms(17,
            "DRIVE for a SHEEP, a WHISTLE and a CELL: the shortest row of CALLS to that WHISTLE, one in each"
                + " STEP from now on, behind which the SHEEP is in that CELL: how many (0 .. 10);");
        driven(s, WhitherSentences::ram, 20);
        driven(s, () -> Checks.told("fell 0;whistle 0 0;sheep 0 2;"), 3, 1);
        driven(s, WhitherSentences::ram, 21, 2, 2, 2, 2, 3, 3, 3, 3);
        driven(s, WhitherSentences::ram, 22, 2, 2, 2, 2, 3, 3, 3, 3, 1);
        driven(s, WhitherSentences::ram, 23, 2, 2, 2, 2, 3, 3, 3, 3, 1, 1);
        s.onlyTold(WhitherSentences::ram, "an 11th would be needed", x -> x.drive(0, 0, 24, -2), -6);
    }

    private static void driveCalls() {
        Sentence s = Sentence.ofTerms(17, "the k-th CALL of the first such row (CALLS rising); none.");
        Sentence.of(17, "DRIVE: how many (k = -2), the k-th CALL.");
        driven(s, () -> Checks.told("fell 0;whistle 0 12;sheep 0 13;"), 14, 1);
        driven(s, () -> Checks.told("fell 0;whistle 0 11;sheep 2 11;"), 12, 4);
        driven(s, () -> Checks.told("fell 0;whistle 0 0;sheep 2 0;"), 1, 0);
        driven(s, () -> Checks.told("fell 0;whistle 0 24;sheep 0 23;"), 22, 1);
        driven(s, () -> Checks.told("fell 0;whistle 4 4;sheep 2 20;"), 21, 0, 2, 2, 3, 2, 3);
        driven(s, () -> Checks.told("fell 0;whistle 4 4;sheep 2 20;steps 1;"), 21, 2, 2, 3, 2, 3);
        driven(s, () -> Checks.told("fell 0;whistle 3 4;sheep 2 20;"), 21, 2, 3, 3);
        driven(s, () -> Checks.told("fell 0;whistle 5 4;sheep 2 20;steps 19;"), 21, 2, 2, 2, 3, 3);
        driven(s, () -> Checks.told("fell 0;whistle 0 2;sheep 2 0;"), 1, 3, 3);
        driven(s, () -> Checks.told("fell 0;whistle 0 4;sheep 0 2;"), 0, 3, 3);
        driven(s, () -> Checks.told("fell 0;whistle 3 15;sheep 2 12;steps 11;"), 13, 1, 2, 0);
        driven(s, () -> Checks.told("fell 0;whistle 2 6;sheep 3 7;steps 10;"), 21, 0, 1, 0, 1, 1, 0, 2, 2, 0, 2);
        driven(s, () -> Checks.told("fell 0;whistle 1 23;sheep 3 12;"), 5, 0, 4, 2, 3);
        driven(s, () -> Checks.told("fell 0;whistle 5 17;sheep 0 7;steps 20;"), 5, 1, 3, 0, 4, 3);
        driven(s, () -> Checks.told("fell 0;whistle 4 19;sheep 0 16;"), 14, 2, 3, 3, 0, 1, 4);
    }

    /** How many calls bring the sheep to each cell, A being ten, - none; the row told does bring it there. */
    private static void driveToEachCell() {
        Sentence s = Sentence.ofTerms(17, "behind which the SHEEP is in that CELL: how many (0 .. 10);");
        String[][] rows = {
            {"fell 0;whistle 0 7;sheep 0 12;", "7674565634320125413465245"},
            {"fell 0;whistle 1 0;sheep 1 1;", "10122--------------------"},
            {"fell 0;whistle 2 18;sheep 4 6;", "639893089989---9---------"},
            {"fell 0;whistle 3 24;sheep 5 13;steps 4;", "4--65-----1--03-----4--65"},
            {"fell 0;whistle 4 12;sheep 3 11;", "4245421-4310-2121-4342454"},
            {"fell 0;whistle 5 3;sheep 0 8;steps 17;", "98654753017541498634A8756"},
            {"fell 0;whistle 0 2;sheep 2 0;", "02345--------------------"}
        };
        for (String[] row : rows) {
            for (int cell = 0; cell < 25; cell++) {
                int due = "0123456789A".indexOf(row[1].charAt(cell));
                WhistleFlock x = Checks.told(row[0]);
                s.due(row[0] + " to " + cell, x.drive(0, 0, cell, -2), due < 0 ? -6 : due);
                s.due(row[0] + " comes to " + cell, broughtBy(x, cell, due), due < 0 ? -6 : cell);
            }
        }
    }

    private static int broughtBy(WhistleFlock x, int cell, int many) {
        int[] row = new int[Math.max(0, many)];
        for (int k = 0; k < row.length; k++) {
            row[k] = x.drive(0, 0, cell, k);
        }
        for (int d : row) {
            x.calls(0, d);
        }
        return many < 0 ? x.drive(0, 0, cell, 0) : x.about(0, 1);
    }

    private static void driveOfTheLast() {
        Sentence s = Sentence.ofTerms(17,
            "DRIVE for a SHEEP, a WHISTLE and a CELL: the shortest row of CALLS to that WHISTLE,");
        String text = "fell 0;whistle 0 24;whistle 0 4;sheep 0 12;sheep 5 24;sheep 2 20;";
        s.onlyTold(() -> Checks.told(text), "drive(2, 1, 21, -2)", x -> x.drive(2, 1, 21, -2), 8);
        s.onlyTold(() -> Checks.told(text), "drive(2, 1, 21, 4)", x -> x.drive(2, 1, 21, 4), 3);
        s.onlyTold(() -> Checks.told(text), "drive(2, 0, 21, -2)", x -> x.drive(2, 0, 21, -2), 4);
        s.onlyTold(() -> Checks.told(text), "drive(1, 1, 21, -2)", x -> x.drive(1, 1, 21, -2), -6);
    }

    private static void driveNone() {
        Sentence s = Sentence.of(17, "-6: none (whatever k is, as told).");
        for (int k : new int[] {-2, 0, 9, 10, Integer.MAX_VALUE}) {
            s.onlyTold(WhitherSentences::ram, "none, k = " + k, x -> x.drive(0, 0, 24, k), -6);
            s.onlyTold(WhitherSentences::ram, "none, k = " + k, x -> x.drive(0, 0, 0, k), -6);
        }
        for (int k : new int[] {-1, -3, Integer.MIN_VALUE}) {
            s.refused(WhitherSentences::ram, "none, k = " + k, x -> x.drive(0, 0, 24, k), -10, Sentence.AS_BAD);
        }
    }

    private static void driveNotSoMany() {
        Sentence s = Sentence.of(17, "-5: not so many.");
        for (int k : new int[] {0, 1, Integer.MAX_VALUE}) {
            s.onlyTold(WhitherSentences::ram, "a row of none, k = " + k, x -> x.drive(0, 0, 20, k), -5);
        }
        s.onlyTold(WhitherSentences::ram, "a row of 10, k = 9", x -> x.drive(0, 0, 23, 9), 1);
        for (int k : new int[] {10, 11, Integer.MAX_VALUE}) {
            s.onlyTold(WhitherSentences::ram, "a row of 10, k = " + k, x -> x.drive(0, 0, 23, k), -5);
        }
        s.onlyTold(WhitherSentences::ram, "a row of 8, k = 8", x -> x.drive(0, 0, 21, 8), -5);
    }

    private static void driveIsRefused() {
        Sentence s = Sentence.of(17, "BAD: -10: k = -1, k below -2, too.");
        for (Supplier<WhistleFlock> scene : Arrays.<Supplier<WhistleFlock>>asList(WhitherSentences::ram, Scenes::full)) {
            for (int k : new int[] {-1, -3, -4, Integer.MIN_VALUE}) {
                s.refused(scene, "k = " + k, x -> x.drive(0, 0, 20, k), -10, Sentence.AS_BAD);
            }
            s.refused(scene, "k = -2, no cell", x -> x.drive(0, 0, 25, -2), -10, Sentence.AS_BAD);
            s.refused(scene, "k = -2, no whistle", x -> x.drive(0, 3, 0, -2), -10, Sentence.AS_BAD);
            s.refused(scene, "k = -2, no sheep", x -> x.drive(7, 0, 0, -2), -10, Sentence.AS_BAD);
        }
    }

    private static void nearest(Sentence s, String text, int d, int far) {
        s.onlyTold(() -> Checks.told(text), "near(0, 0) of " + text, x -> x.near(0, 0), d);
        s.onlyTold(() -> Checks.told(text), "near(0, 1) of " + text, x -> x.near(0, 1), far);
    }

    private static void near() {
        Sentence s = Sentence.ofTerms(18,
            "NEAR for a WHISTLE: the CALL to it now by which all SHEEP together are least FAR from THE FOLD; of"
                + " like ones the first;");
        Sentence.of(18, "NEAR:");
        nearest(s, "fell 0;whistle 0 12;", 0, 0);
        nearest(s, "fell 0;whistle 0 24;sheep 0 3;", 0, 3);
        nearest(s, "fell 14;whistle 1 12;sheep 0 13;", 4, 0);
        nearest(s, "fell 0;whistle 0 8;sheep 0 6;", 3, 1);
        nearest(s, "fell 24;whistle 0 12;sheep 0 13;", 1, 2);
        nearest(s, "fell 0;whistle 0 12;sheep 0 6;", 0, 1);
        nearest(s, "fell 2;whistle 0 12;sheep 0 12;", 2, 1);
        nearest(s, "fell 14;whistle 2 13;sheep 0 13;", 0, 0);
    }

    private static void nearTogether() {
        Sentence s = Sentence.ofTerms(18, "how FAR they are together then.");
        nearest(s, "fell 14;whistle 0 12;sheep 0 13;sheep 0 11;sheep 0 17;", 1, 6);
        nearest(s, "fell 0;whistle 0 0;sheep 0 24;sheep 0 24;sheep 0 24;sheep 0 24;sheep 0 24;sheep 0 24;sheep 0 24;", 0, 56);
        nearest(s, "fell 24;whistle 0 0;sheep 0 24;sheep 0 24;", 0, 0);
    }

    private static void gathered(Sentence s, String text, int many, int three) {
        s.onlyTold(() -> Checks.told(text), "gather(0, 0) of " + text, x -> x.gather(0, 0), many);
        s.onlyTold(() -> Checks.told(text), "gather(0, 1) of " + text, x -> x.gather(0, 1), three);
    }

    private static void gather() {
        Sentence s = Sentence.ofTerms(19,
            "GATHER for a WHISTLE: three CALLS to it, one behind the other, by which most SHEEP are in THE FOLD"
                + " behind them: how many;");
        Sentence.of(19, "GATHER:");
        gathered(s, "fell 0;whistle 0 12;", 0, 0);
        gathered(s, "fell 0;whistle 0 3;sheep 0 1;", 1, 3);
        gathered(s, "fell 0;whistle 0 4;sheep 0 2;", 1, 33);
        gathered(s, "fell 4;whistle 0 0;sheep 0 1;", 1, 11);
        gathered(s, "fell 24;whistle 0 0;sheep 0 24;sheep 0 24;sheep 0 24;sheep 0 24;sheep 0 24;sheep 0 24;sheep 0 24;", 7, 0);
        gathered(s, "fell 0;whistle 0 3;sheep 0 1;sheep 0 1;sheep 0 24;", 2, 3);
    }

    private static void gatherOfLikeOnes() {
        Sentence s = Sentence.ofTerms(19,
            "the three as 100 times the first, 10 times the second, and the third (of like ones the least).");
        gathered(s, "fell 0;whistle 0 24;sheep 0 2;", 0, 0);
        gathered(s, "fell 14;whistle 2 13;sheep 0 13;", 1, 0);
        gathered(s, "fell 22;whistle 0 7;sheep 0 12;", 1, 22);
        gathered(s, "fell 20;whistle 1 4;sheep 2 20;", 1, 0);
        gathered(s, "fell 23;whistle 0 21;sheep 2 21;", 1, 21);
        gathered(s, "fell 2;whistle 3 8;sheep 3 8;sheep 2 17;", 1, 123);
        gathered(s, "fell 3;whistle 1 7;sheep 3 5;sheep 4 5;", 1, 321);
        gathered(s, "fell 23;whistle 3 16;sheep 5 18;sheep 3 13;sheep 2 9;", 2, 12);
        gathered(s, "fell 8;whistle 1 16;sheep 0 11;", 1, 404);
        gathered(s, "fell 5;whistle 4 8;sheep 0 7;sheep 4 6;", 2, 443);
    }
}
