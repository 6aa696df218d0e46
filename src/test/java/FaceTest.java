import java.lang.reflect.Constructor;
import java.lang.reflect.Field;
import java.lang.reflect.Method;
import java.lang.reflect.Modifier;
import java.util.HashSet;
import java.util.Set;
import java.util.TreeSet;

/** The public face is the document's, and nothing else can be seen from outside. */
public final class FaceTest {
    private static final Due DUE = new Due("FaceTest");
    private static final String[] METHODS = {
        "int prime(int)", "int sheet(int,int,int)", "int put(int,int,int,long)", "int copy(int,int,int,int,int)",
        "int lose(int)", "int series(int,int,int)", "int share(int,int,int,int,int)", "int unfold(int)",
        "int plus(int,int,int)", "int times(int,int)", "int under(int)", "int moved(int,int,int)",
        "int number(int,int)", "int length(int)", "int clear()", "int entry(int,int,int)", "int worth(int,int,int)",
        "int block(int,int,int,int)", "int stair(int,int)", "int recur(int)", "int point(int,int)", "int wipe()",
        "int join(int,int)", "int degree(int)", "int term(int,int)", "int value(int)", "int cause()",
        "int causes(int)", "int count(int)", "long digest()"};
    private static final Set<String> CONSTANTS = Set.of("NONE", "UNKNOWN", "OUTSIDE", "STATE", "FULL");

    public static void main(String[] args) {
        constants();
        methods();
        constructor();
        fields();
        classesInside();
        DUE.end();
    }

    private static void constants() {
        DUE.is("NONE", -1, SharesOfSeries.NONE);
        DUE.is("UNKNOWN", -101, SharesOfSeries.UNKNOWN);
        DUE.is("OUTSIDE", -102, SharesOfSeries.OUTSIDE);
        DUE.is("STATE", -103, SharesOfSeries.STATE);
        DUE.is("FULL", -104, SharesOfSeries.FULL);
        DUE.holds("the class is final", Modifier.isFinal(SharesOfSeries.class.getModifiers()));
        DUE.holds("the class is public", Modifier.isPublic(SharesOfSeries.class.getModifiers()));
    }

    private static void methods() {
        Set<String> due = new TreeSet<>(Set.of(METHODS));
        Set<String> found = new TreeSet<>();
        Set<String> names = new HashSet<>();
        for (Method each : SharesOfSeries.class.getDeclaredMethods()) {
            if (Modifier.isPrivate(each.getModifiers())) continue;
            found.add(told(each));
            names.add(each.getName());
            DUE.holds(each + " is public and no static one", each.getModifiers() == Modifier.PUBLIC);
        }
        DUE.holds("methods " + found + " are " + due, found.equals(due));
        for (Method each : SharesOfSeries.class.getDeclaredMethods()) {
            if (Modifier.isPrivate(each.getModifiers())) {
                DUE.holds(each + " has a name of its own", !names.contains(each.getName()));
            }
        }
    }

    private static String told(Method method) {
        StringBuilder text = new StringBuilder(method.getReturnType().getName()).append(' ');
        text.append(method.getName()).append('(');
        for (Class<?> type : method.getParameterTypes()) {
            if (text.charAt(text.length() - 1) != '(') text.append(',');
            text.append(type.getName());
        }
        return text.append(')').toString();
    }

    private static void constructor() {
        Constructor<?>[] found = SharesOfSeries.class.getDeclaredConstructors();
        DUE.is("constructors", 1, found.length);
        DUE.is("its parameters", 0, found[0].getParameterCount());
        DUE.holds("it is public", Modifier.isPublic(found[0].getModifiers()));
    }

    private static void fields() {
        for (Field each : SharesOfSeries.class.getDeclaredFields()) {
            int modifiers = each.getModifiers();
            DUE.holds(each + " is seen just if it is of the document",
                CONSTANTS.contains(each.getName()) == !Modifier.isPrivate(modifiers));
            if (Modifier.isStatic(modifiers)) DUE.holds(each + " is final", Modifier.isFinal(modifiers));
        }
    }

    private static void classesInside() {
        Class<?>[] inside = SharesOfSeries.class.getDeclaredClasses();
        DUE.holds("twelve classes at most", inside.length < 12);
        for (Class<?> each : inside) {
            DUE.holds(each + " is static", Modifier.isStatic(each.getModifiers()));
            DUE.holds(each + " has no public side", !Modifier.isPublic(each.getModifiers()));
            for (Field field : each.getDeclaredFields()) {
                DUE.holds(field + " is no static state",
                    !Modifier.isStatic(field.getModifiers()) || Modifier.isFinal(field.getModifiers()));
            }
        }
    }
}
