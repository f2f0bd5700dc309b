import java.lang.reflect.InvocationTargetException;
import java.lang.reflect.Method;
import java.lang.reflect.Modifier;
import java.util.Arrays;
import java.util.Comparator;
import java.util.Random;

/** Any numbers in any state, far behind the 512th call: no call throws, and two objects of one past answer alike. */
final class HardyTests {
    private static final int RUNS = 60, DRAWS = 1500, TO_THE_BRIM = 9;
    private static final int[] FAR_OFF = {
        Integer.MIN_VALUE, Integer.MIN_VALUE + 1, -1000000, -13, -10, -6, -5, -3, -2, -1, 25, 60, 61, 99, 100, 127, 128,
        9999, 10000, 999999, 1000000, 1 << 30, Integer.MAX_VALUE - 1, Integer.MAX_VALUE
    };
    private static final String[] PIECES = {
        "sheep 1 12;", "sheep 5 7;", "sheep 2 1;", "sheep 3 24;", "steps 99;", "call 0 1;", "call 1 3;", "whistle 5 0;",
        "fell 7;", "call 2 2;", ";", "7", "x", "\0", "\177"
    };
    private static final int FITTING = 8;
    private static final Method[] METHODS = methods();

    private final Random random;
    private final WhistleFlock flock = new WhistleFlock();
    private final WhistleFlock twin = new WhistleFlock();
    private String last = "new";

    private HardyTests(int run) {
        random = new Random(26L * run);
    }

    static void run() {
        for (int run = 0; run < RUNS; run++) {
            HardyTests one = new HardyTests(run);
            boolean stands = true;
            for (int n = 0; n < DRAWS && stands; n++) {
                stands = n % 50 == 0 ? one.isTextTaken() : one.isTaken(METHODS[one.random.nextInt(METHODS.length)]);
            }
            Checks.holds("run " + run + " of any calls stands behind " + one.last, stands);
        }
    }

    private static Method[] methods() {
        return Arrays.stream(WhistleFlock.class.getDeclaredMethods())
            .filter(method -> Modifier.isPublic(method.getModifiers()))
            .sorted(Comparator.comparing(Method::getName))
            .toArray(Method[]::new);
    }

    // Now and then so often that what can be full is full.
    private boolean isTaken(Method method) {
        int times = random.nextInt(8) == 0 ? TO_THE_BRIM : 1;
        boolean isTaken = true;
        for (int n = 0; n < times && isTaken; n++) {
            isTaken = isTakenOnce(method);
        }
        return isTaken;
    }

    private boolean isTakenOnce(Method method) {
        Object[] numbers = new Object[method.getParameterCount()];
        for (int place = 0; place < numbers.length; place++) {
            numbers[place] = random.nextInt(8) == 0 ? FAR_OFF[random.nextInt(FAR_OFF.length)] : near();
        }
        last = method.getName() + Arrays.toString(numbers);
        try {
            return method.invoke(flock, numbers).equals(method.invoke(twin, numbers));
        } catch (InvocationTargetException | IllegalAccessException thrown) {
            last += " throws " + thrown.getCause();
            return false;
        }
    }

    private int near() {
        int[] most = {130, 9, 5, 5};
        return random.nextInt(most[random.nextInt(most.length)]);
    }

    private boolean isTextTaken() {
        StringBuilder text = new StringBuilder("fell 24;whistle 3 12;whistle 4 24;");
        while (text.length() < 150 && random.nextInt(15) != 0) {
            text.append(PIECES[random.nextInt(random.nextInt(30) == 0 ? PIECES.length : FITTING)]);
        }
        last = "read() of " + text;
        flock.clear();
        twin.clear();
        Checks.write(flock, text.toString());
        Checks.write(twin, text.toString());
        return flock.read() == twin.read();
    }
}
