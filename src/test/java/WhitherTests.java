/** Promises 14 to 19: whither a whistle and a sheep would come, and which calls are best. */
final class WhitherTests {
    private static final int[] NO_CALLS = {-1, 5, Integer.MIN_VALUE, Integer.MAX_VALUE};
    private static final int[] NOT_ONE = {-1, 1, 7, Integer.MIN_VALUE, Integer.MAX_VALUE};
    private static final int[] NO_CELLS = {-1, 25, Integer.MIN_VALUE, Integer.MAX_VALUE};

    private WhitherTests() {
    }

    static void run() {
        goes();
        gives();
        folded();
        driveShort();
        driveLong();
        driveByStep();
        driveBeyondLastStep();
        driveIsRefused();
        near();
        gather();
        gatherOfLikeOnes();
    }

    private static void goes() {
        WhistleFlock x = new WhistleFlock();
        Checks.due(14, "goes(0, 0), nobody there", x.goes(0, 0), -2);
        x.whistle(4, 12);
        goesTo(x, 7, 13, 17, 11);
        x.steps(1);
        goesTo(x, 2, 14, 22, 10);
        for (int d : NO_CALLS) {
            Checks.due(14, "goes(0, " + d + ")", x.goes(0, d), -2);
        }
        for (int i : NOT_ONE) {
            Checks.due(14, "goes(" + i + ", 0)", x.goes(i, 0), -2);
        }
        x.whistle(3, 23);
        Checks.due(14, "goes(1, 1), not beyond the border", x.goes(1, 1), 24);
        Checks.due(14, "goes(1, 2), not beyond the border", x.goes(1, 2), 23);
        Checks.due(14, "goes(1, 0)", x.goes(1, 0), 13);
    }

    private static void goesTo(WhistleFlock x, int up, int on, int down, int back) {
        long before = x.digest();
        int[] due = {up, on, down, back, 12};
        for (int d = 0; d < 5; d++) {
            Checks.due(14, "goes(0, " + d + ")", x.goes(0, d), due[d]);
        }
        Checks.due(14, "nothing is changed by goes", x.digest(), before);
    }

    private static void gives() {
        WhistleFlock x = Checks.told("fell 0;whistle 0 12;sheep 0 13;sheep 5 7;whistle 1 24;");
        int[] ewe = {13, 14, 13, 13, 14};
        int[] stray = {9, 2, 2, 2, 2};
        long before = x.digest();
        for (int d = 0; d < 5; d++) {
            Checks.due(15, "gives(0, 0, " + d + ")", x.gives(0, 0, d), ewe[d]);
            Checks.due(15, "gives(1, 0, " + d + ")", x.gives(1, 0, d), stray[d]);
        }
        Checks.due(15, "gives(0, 1, 0), two off", x.gives(0, 1, 0), 12);
        Checks.due(15, "nothing is changed by gives", x.digest(), before);
        for (int bad : new int[] {-1, 2, Integer.MAX_VALUE, Integer.MIN_VALUE}) {
            Checks.due(15, "gives(" + bad + ", 0, 0)", x.gives(bad, 0, 0), -2);
            Checks.due(15, "gives(0, " + bad + ", 0)", x.gives(0, bad, 0), -2);
        }
        for (int d : NO_CALLS) {
            Checks.due(15, "gives(0, 0, " + d + ")", x.gives(0, 0, d), -2);
        }
        Checks.due(15, "status(0)", x.status(0), 12);
    }

    private static void folded() {
        WhistleFlock x = new WhistleFlock();
        Checks.due(16, "folded(), nobody there", x.folded(), 0);
        int[] cells = {3, 0, 3, 4, 3, 0, 3};
        for (int cell : cells) {
            x.sheep(0, cell);
        }
        Checks.due(16, "folded(), the fold 0", x.folded(), 2 + 32);
        x.fold(3);
        Checks.due(16, "folded(), the fold 3", x.folded(), 1 + 4 + 16 + 64);
        x.fold(24);
        Checks.due(16, "folded(), the fold 24", x.folded(), 0);
    }

    private static void drives(WhistleFlock x, int cell, int... row) {
        Checks.due(17, "drive(0, 0, " + cell + ", -2)", x.drive(0, 0, cell, -2), row.length);
        for (int k = 0; k < row.length; k++) {
            Checks.due(17, "drive(0, 0, " + cell + ", " + k + ")", x.drive(0, 0, cell, k), row[k]);
        }
        Checks.due(17, "drive behind the row", x.drive(0, 0, cell, row.length), -5);
        Checks.due(17, "drive far behind the row", x.drive(0, 0, cell, Integer.MAX_VALUE), -5);
    }

    private static void drivesNowhere(WhistleFlock x, int cell) {
        for (int k : new int[] {-2, 0, 9, 10, Integer.MAX_VALUE}) {
            Checks.due(17, "drive(0, 0, " + cell + ", " + k + ")", x.drive(0, 0, cell, k), -6);
        }
    }

    private static void driveShort() {
        WhistleFlock x = Checks.told("fell 0;whistle 0 0;sheep 0 2;");
        long before = x.digest();
        drives(x, 2);
        drives(x, 3, 1);
        drives(x, 4, 1, 1);
        drivesNowhere(x, 7);
        Checks.due(17, "nothing is changed by drive", x.digest(), before);
        WhistleFlock lip = Checks.told("fell 0;whistle 2 5;sheep 0 6;");
        drives(lip, 7, 0);
        WhistleFlock other = Checks.told("fell 0;sheep 0 24;sheep 0 2;whistle 0 24;whistle 0 0;");
        Checks.due(17, "drive(1, 1, 3, -2)", other.drive(1, 1, 3, -2), 1);
        Checks.due(17, "drive(1, 1, 3, 0)", other.drive(1, 1, 3, 0), 1);
    }

    private static void driveLong() {
        WhistleFlock x = Checks.told("fell 0;whistle 0 4;sheep 2 20;");
        drives(x, 21, 2, 2, 2, 2, 3, 3, 3, 3);
        drives(x, 22, 2, 2, 2, 2, 3, 3, 3, 3, 1);
        drives(x, 23, 2, 2, 2, 2, 3, 3, 3, 3, 1, 1);
        drivesNowhere(x, 24);
        drivesNowhere(x, 15);
        Checks.due(17, "none is none of STATUS", x.status(1), 0);
    }

    private static void driveByStep() {
        WhistleFlock x = Checks.told("fell 0;whistle 4 4;sheep 2 20;");
        drives(x, 21, 0, 2, 2, 3, 2, 3);
        WhistleFlock later = Checks.told("fell 0;whistle 4 4;sheep 2 20;steps 1;");
        drives(later, 21, 2, 2, 3, 2, 3);
        WhistleFlock temper = Checks.told("fell 0;whistle 3 4;sheep 2 20;");
        drives(temper, 21, 2, 3, 3);
    }

    private static void driveBeyondLastStep() {
        WhistleFlock x = Checks.told("fell 0;whistle 0 4;sheep 2 20;");
        for (int n = 0; n < 101; n++) {
            x.steps(99);
        }
        Checks.due(17, "count(2)", x.count(2), 9999);
        drives(x, 21, 2, 2, 2, 2, 3, 3, 3, 3);
        Checks.due(14, "goes(0, 2) in step 9999", x.goes(0, 2), 9);
        Checks.due(15, "gives(0, 0, 2) in step 9999", x.gives(0, 0, 2), 20);
        Checks.due(18, "near(0, 1) in step 9999", x.near(0, 1), 4);
        Checks.due(19, "gather(0, 0) in step 9999", x.gather(0, 0), 0);
        Checks.due(33, "winters(0, 60) in step 9999", x.winters(0, 60), 0);
    }

    private static void driveIsRefused() {
        WhistleFlock x = new WhistleFlock();
        Checks.due(17, "drive(0, 0, 0, -2), nobody there", x.drive(0, 0, 0, -2), -10);
        x.whistle(0, 0);
        Checks.due(17, "drive(0, 0, 0, -2), no sheep", x.drive(0, 0, 0, -2), -10);
        x.sheep(0, 0);
        for (int k : new int[] {-1, -3, Integer.MIN_VALUE}) {
            Checks.due(17, "drive(0, 0, 0, " + k + ")", x.drive(0, 0, 0, k), -10);
            Checks.due(17, "drive(0, 0, 24, " + k + ")", x.drive(0, 0, 24, k), -10);
        }
        for (int c : NO_CELLS) {
            Checks.due(17, "drive(0, 0, " + c + ", -2)", x.drive(0, 0, c, -2), -10);
        }
        for (int bad : NOT_ONE) {
            Checks.due(17, "drive(" + bad + ", 0, 0, -2)", x.drive(bad, 0, 0, -2), -10);
            Checks.due(17, "drive(0, " + bad + ", 0, -2)", x.drive(0, bad, 0, -2), -10);
        }
        Checks.due(17, "status(0)", x.status(0), 22);
    }

    private static void near() {
        nearest("fell 0;whistle 0 12;sheep 0 13;", 0, 5);
        nearest("fell 0;whistle 0 8;sheep 0 6;", 3, 1);
        nearest("fell 0;whistle 0 12;sheep 0 6;", 0, 1);
        nearest("fell 24;whistle 0 12;sheep 0 13;", 1, 2);
        nearest("fell 24;whistle 0 13;sheep 0 13;", 0, 2);
        nearest("fell 14;whistle 0 13;sheep 0 13;", 3, 0);
        nearest("fell 14;whistle 1 12;sheep 0 13;", 4, 0);
        nearest("fell 24;whistle 0 12;", 0, 0);
        nearest("fell 14;whistle 0 12;sheep 0 13;sheep 0 11;sheep 0 17;", 1, 6);
        WhistleFlock x = Checks.told("fell 0;whistle 0 12;sheep 0 13;");
        for (int i : NOT_ONE) {
            Checks.due(18, "near(" + i + ", 0)", x.near(i, 0), -2);
        }
        Checks.due(18, "near(0, 2)", x.near(0, 2), -2);
        Checks.due(18, "near(0, -1)", x.near(0, -1), -2);
        Checks.due(18, "status(0)", x.status(0), 7);
    }

    private static void nearest(String text, int d, int far) {
        WhistleFlock x = Checks.told(text);
        long before = x.digest();
        Checks.due(18, "near(0, 0) of " + text, x.near(0, 0), d);
        Checks.due(18, "near(0, 1) of " + text, x.near(0, 1), far);
        Checks.due(18, "nothing is changed by near", x.digest(), before);
    }

    private static void gather() {
        WhistleFlock x = Checks.told("fell 0;whistle 0 3;sheep 0 1;");
        long before = x.digest();
        Checks.due(19, "gather(0, 0)", x.gather(0, 0), 1);
        Checks.due(19, "gather(0, 1)", x.gather(0, 1), 3);
        Checks.due(19, "nothing is changed by gather", x.digest(), before);
        Checks.due(19, "gather(0, 2)", x.gather(0, 2), -2);
        Checks.due(19, "gather(0, -1)", x.gather(0, -1), -2);
        for (int i : NOT_ONE) {
            Checks.due(19, "gather(" + i + ", 0)", x.gather(i, 0), -2);
        }
        Checks.due(19, "status(0)", x.status(0), 7);
        WhistleFlock far = Checks.told("fell 0;whistle 0 4;sheep 0 2;");
        Checks.due(19, "gather(0, 0), two calls needed", far.gather(0, 0), 1);
        Checks.due(19, "gather(0, 1), two calls needed", far.gather(0, 1), 33);
    }

    private static void gatherOfLikeOnes() {
        WhistleFlock none = Checks.told("fell 0;whistle 0 24;sheep 0 2;");
        Checks.due(19, "gather(0, 0), none can be", none.gather(0, 0), 0);
        Checks.due(19, "gather(0, 1), none can be", none.gather(0, 1), 0);
        WhistleFlock two = Checks.told("fell 0;whistle 0 3;sheep 0 1;sheep 0 1;sheep 0 24;");
        Checks.due(19, "gather(0, 0) of two", two.gather(0, 0), 2);
        Checks.due(19, "gather(0, 1) of two", two.gather(0, 1), 3);
    }
}
