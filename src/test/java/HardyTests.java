import java.lang.reflect.InvocationTargetException;
import java.lang.reflect.Method;
import java.lang.reflect.Modifier;
import java.util.Arrays;
import java.util.Comparator;
import java.util.Random;

/** Any numbers in any state, far behind the 512th call: no call throws, and two objects of one past answer alike. */
final class HardyTests {
    private static final int RUNS = 60, CALLS = 2500;
    private static final int[] FAR_OFF = {
        Integer.MIN_VALUE, Integer.MIN_VALUE + 1, -1000000, -13, -10, -6, -5, -3, -2, -1, 25, 60, 61, 99, 100, 127, 128,
        9999, 10000, 999999, 1000000, 1 << 30, Integer.MAX_VALUE - 1, Integer.MAX_VALUE
    };
    private static final String[] PIECES = {
        "fell 0;", "fell 24;", "whistle 3 12;", "whistle 5 0;", "whistle 4 24;", "sheep 1 12;", "sheep 5 7;", "sheep 2 1;",
        "call 0 1;", "call 1 3;", "call 2 2;", "steps 99;", "steps 1;", " ", ";", "7", "x", "\0", "\177"
    };
    private static final Method[] METHODS = methods();

    private final Random random;
    private final WhistleFlock flock = new WhistleFlock();
    private final WhistleFlock twin = new WhistleFlock();
    private String last = "new";

    private HardyTests(int run) {
        random = new Random(26L * run);
    }

    static void run() {
        for (int run = 0; run < RUNS; run++) {
            HardyTests one = new HardyTests(run);
            boolean stands = true;
            for (int n = 0; n < CALLS && stands; n++) {
                stands = n % 50 == 0 ? one.isTextTaken() : one.isTaken(METHODS[one.random.nextInt(METHODS.length)]);
            }
            Checks.holds("run " + run + " of any calls stands behind " + one.last, stands);
        }
    }

    private static Method[] methods() {
        return Arrays.stream(WhistleFlock.class.getDeclaredMethods())
            .filter(method -> Modifier.isPublic(method.getModifiers()))
            .sorted(Comparator.comparing(Method::getName))
            .toArray(Method[]::new);
    }

    private boolean isTaken(Method method) {
        Object[] numbers = new Object[method.getParameterCount()];
        for (int place = 0; place < numbers.length; place++) {
            numbers[place] = random.nextInt(8) == 0 ? FAR_OFF[random.nextInt(FAR_OFF.length)] : near();
        }
        last = method.getName() + Arrays.toString(numbers);
        try {
            return method.invoke(flock, numbers).equals(method.invoke(twin, numbers));
        } catch (InvocationTargetException | IllegalAccessException thrown) {
            last += " throws " + thrown.getCause();
            return false;
        }
    }

    private int near() {
        return random.nextInt(4) == 0 ? random.nextInt(130) : random.nextInt(5);
    }

    private boolean isTextTaken() {
        StringBuilder text = new StringBuilder(PIECES[random.nextInt(2)]);
        while (text.length() < 150 && random.nextInt(15) != 0) {
            text.append(PIECES[random.nextInt(random.nextInt(10) == 0 ? PIECES.length : PIECES.length - 6)]);
        }
        last = "read() of " + text;
        flock.clear();
        twin.clear();
        Checks.write(flock, text.toString());
        Checks.write(twin, text.toString());
        return flock.read() == twin.read();
    }
}
