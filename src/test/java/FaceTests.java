import java.lang.reflect.Constructor;
import java.lang.reflect.Field;
import java.lang.reflect.Method;
import java.lang.reflect.Modifier;
import java.util.Arrays;
import java.util.Set;
import java.util.TreeSet;

/** The public face: what the document lists is there, and nothing else can be seen from outside. */
final class FaceTests {
    private static final String[] METHODS = {
        "int fell(int)", "int whistle(int,int)", "int sheep(int,int)", "int fold(int)", "int type(int)",
        "int clear()", "int read()", "int calls(int,int)", "int steps(int)", "int undo()", "int of(int,int)",
        "int about(int,int)", "int goes(int,int)", "int gives(int,int,int)", "int folded()",
        "int drive(int,int,int,int)", "int near(int,int)", "int gather(int,int)", "int seen(int,int)",
        "int which(int)", "int whose(int)", "int tell(int)", "int note(int,int,int)", "int mark(int,int,int)",
        "int forget(int)", "int is(int)", "int look(int)", "int kinds(int)", "int ask(int)",
        "int shepherds(int,int,int)", "int misheard(int,int,int,int,int)", "int winters(int,int)",
        "long part(int)", "int image(int)", "int from(int)", "int status(int)", "int count(int)", "long digest()"
    };

    private FaceTests() {
    }

    static void run() {
        Checks.due(1, "NONE", WhistleFlock.NONE, -1);
        Checks.due(1, "BAD", WhistleFlock.BAD, -2);
        Checks.due(1, "NO", WhistleFlock.NO, -3);
        Checks.due(1, "FULL", WhistleFlock.FULL, -4);
        int form = WhistleFlock.class.getModifiers();
        Checks.holds("the class is public and final", Modifier.isPublic(form) && Modifier.isFinal(form));
        methodsAreTheDocuments();
        fieldsAreTheDocuments();
        constructorIsOne();
        classesInsideAreStatic();
    }

    private static void methodsAreTheDocuments() {
        Set<String> due = new TreeSet<>(Arrays.asList(METHODS));
        Set<String> seen = new TreeSet<>();
        for (Method method : WhistleFlock.class.getDeclaredMethods()) {
            if (Modifier.isPublic(method.getModifiers())) {
                seen.add(told(method));
            } else {
                boolean isPrivate = Modifier.isPrivate(method.getModifiers());
                Checks.holds(method.getName() + " is public or private", isPrivate);
                Checks.holds(method.getName() + " bears no public name", !bearsPublicName(method));
            }
        }
        Checks.holds("the public methods are the document's: " + seen, seen.equals(due));
    }

    private static String told(Method method) {
        StringBuilder text = new StringBuilder(method.getReturnType() + " " + method.getName() + "(");
        String between = "";
        for (Class<?> type : method.getParameterTypes()) {
            text.append(between).append(type);
            between = ",";
        }
        return text.append(")").toString();
    }

    private static boolean bearsPublicName(Method method) {
        for (String face : METHODS) {
            if (face.contains(" " + method.getName() + "(")) {
                return true;
            }
        }
        return false;
    }

    private static void fieldsAreTheDocuments() {
        Set<String> seen = new TreeSet<>();
        for (Field field : WhistleFlock.class.getDeclaredFields()) {
            if (!Modifier.isPrivate(field.getModifiers())) {
                seen.add(field.getName() + (Modifier.isPublic(field.getModifiers()) ? "" : " not public"));
            }
            if (Modifier.isStatic(field.getModifiers())) {
                Checks.holds(field.getName() + " is final", Modifier.isFinal(field.getModifiers()));
            }
        }
        Checks.holds("the constants are the document's: " + seen,
            seen.equals(new TreeSet<>(Arrays.asList("NONE", "BAD", "NO", "FULL"))));
    }

    private static void constructorIsOne() {
        Constructor<?>[] all = WhistleFlock.class.getDeclaredConstructors();
        Checks.holds("one public constructor without parameters", all.length == 1
            && Modifier.isPublic(all[0].getModifiers()) && all[0].getParameterCount() == 0);
    }

    private static void classesInsideAreStatic() {
        Class<?>[] inside = WhistleFlock.class.getDeclaredClasses();
        Checks.holds("at most twelve classes", inside.length < 12);
        for (Class<?> one : inside) {
            boolean isHidden = !Modifier.isPublic(one.getModifiers()) && !Modifier.isProtected(one.getModifiers());
            Checks.holds(one + " is hidden and static", isHidden && Modifier.isStatic(one.getModifiers()));
            for (Method method : one.getDeclaredMethods()) {
                Checks.holds(method + " bears no public name", !bearsPublicName(method));
            }
        }
    }
}
