import java.util.Arrays;
import java.util.List;
import java.util.function.Supplier;

/** Objects in states that the tests of sentences begin with; each call makes a new one. */
final class Scenes {
    /** Exactly 150 bytes: as many as THE TEXT may have. */
    static final String FULL_TEXT = "fell 9;whistle 5 24;whistle 0 0;whistle 3 12;sheep 0 9;sheep 5 13;steps 99;"
        + "call 2 0;sheep 1 1;sheep 2 2;sheep 3 3;sheep 4 4;sheep 5 5;steps2;call 0 1;";

    private Scenes() {
    }

    static List<Supplier<WhistleFlock>> all() {
        return Arrays.asList(Scenes::nobody, Scenes::some, Scenes::full, Scenes::last);
    }

    /** Those in which there are two whistles and two sheep at least. */
    static List<Supplier<WhistleFlock>> peopled() {
        return Arrays.asList(Scenes::some, Scenes::full, Scenes::last);
    }

    /** A new object. */
    static WhistleFlock nobody() {
        return new WhistleFlock();
    }

    /** Of all some: two whistles, three sheep, a row of each kind, three to undo, one image, a text, a fraction. */
    static WhistleFlock some() {
        WhistleFlock x = new WhistleFlock();
        Checks.write(x, "fell 7;sheep 3 7;steps 5;");
        x.fell(12);
        x.whistle(3, 11);
        x.whistle(4, 0);
        x.sheep(1, 12);
        x.sheep(5, 12);
        x.sheep(0, 24);
        x.steps(3);
        x.misheard(0, 0, 4, 4, 0);
        x.seen(0, 13);
        x.image(0);
        x.calls(0, 1);
        x.note(1, 2, 3);
        x.mark(2, 4, 5);
        x.misheard(2, 0, 3, 2, 3);
        x.calls(1, 2);
        x.undo();
        x.steps(2);
        return x;
    }

    /** Of all as many as may be. */
    static WhistleFlock full() {
        WhistleFlock x = new WhistleFlock();
        Checks.write(x, FULL_TEXT);
        x.fell(24);
        int[] whistles = {3, 1, 5};
        for (int i = 0; i < whistles.length; i++) {
            x.whistle(whistles[i], 12 * i);
        }
        int[] sheep = {24, 18, 6, 12, 3, 21, 24};
        for (int s = 0; s < sheep.length; s++) {
            x.sheep((s + 1) % 6, sheep[s]);
        }
        x.image(0);
        for (int n = 0; n < 9; n++) {
            x.calls(n % 3, n % 5);
        }
        for (int n = 0; n < 6; n++) {
            x.seen(n, 4 * n);
            x.note(n % 3, 10 * n, n);
            x.mark(n, n, 9 - n);
        }
        x.image(1);
        x.calls(2, 4);
        return x;
    }

    /** In STEP 9999, with eight that may be undone. */
    static WhistleFlock last() {
        WhistleFlock x = new WhistleFlock();
        x.fell(21);
        x.whistle(3, 0);
        x.whistle(0, 24);
        x.sheep(2, 20);
        x.sheep(0, 23);
        x.image(1);
        toStep(x, 9998);
        x.calls(0, 4);
        return x;
    }

    /** Steps go by until it is that one. */
    static void toStep(WhistleFlock x, int step) {
        int left = step - x.count(2);
        while (left > 0) {
            x.steps(Math.min(99, left));
            left -= 99;
        }
    }
}
