import java.util.LinkedHashMap;
import java.util.Map;
import java.util.function.ToLongFunction;

/** Calls that only tell, of all kinds, each by its name; they are as told where two whistles and two sheep are. */
final class Asks {
    private Asks() {
    }

    static Map<String, ToLongFunction<WhistleFlock>> all() {
        Map<String, ToLongFunction<WhistleFlock>> all = new LinkedHashMap<>();
        all.put("folded", WhistleFlock::folded);
        all.put("digest", WhistleFlock::digest);
        all.put("whose, how many", x -> x.whose(WhistleFlock.NONE));
        all.put("whose, the first", x -> x.whose(0));
        all.put("winters of none", x -> x.winters(7, 0));
        all.put("winters of some", x -> x.winters(7, 9));
        all.put("winters of all", x -> x.winters(999999, 60));
        for (int what = 0; what <= 9; what++) {
            int n = what;
            all.put("count " + n, x -> x.count(n));
        }
        for (int n = 0; n < 2; n++) {
            addOfWhistle(all, n);
            addOfSheep(all, n);
            addOfBoth(all, n, 0);
            addOfBoth(all, n, 1);
        }
        return all;
    }

    private static void addOfWhistle(Map<String, ToLongFunction<WhistleFlock>> all, int i) {
        all.put("of " + i, x -> x.of(i, 2));
        all.put("goes " + i, x -> x.goes(i, 1));
        all.put("near " + i, x -> 100 * x.near(i, 0) + x.near(i, 1));
        all.put("gather " + i, x -> 1000 * x.gather(i, 0) + x.gather(i, 1));
        all.put("which " + i, x -> x.which(i));
        all.put("tell " + i, x -> x.tell(i));
        all.put("is " + i, x -> x.is(i));
        all.put("look " + i, x -> x.look(i));
        all.put("shepherds " + i + ", how many", x -> x.shepherds(i, 1 - i, WhistleFlock.NONE));
        all.put("shepherds " + i + ", the first", x -> x.shepherds(i, 1 - i, 0));
    }

    private static void addOfSheep(Map<String, ToLongFunction<WhistleFlock>> all, int s) {
        all.put("about " + s, x -> x.about(s, 2));
        all.put("kinds " + s, x -> x.kinds(s));
        all.put("ask " + s, x -> x.ask(s));
    }

    private static void addOfBoth(Map<String, ToLongFunction<WhistleFlock>> all, int s, int i) {
        all.put("gives " + s + " " + i, x -> x.gives(s, i, 4));
        for (int cell = 0; cell < 25; cell += 4) {
            int c = cell;
            all.put("drive " + s + " " + i + " to " + c + ", how many", x -> x.drive(s, i, c, -2));
            all.put("drive " + s + " " + i + " to " + c + ", the first", x -> x.drive(s, i, c, 0));
        }
    }
}
