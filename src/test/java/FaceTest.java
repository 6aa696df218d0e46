import java.lang.reflect.Constructor;
import java.lang.reflect.Field;
import java.lang.reflect.Method;
import java.lang.reflect.Modifier;
import java.util.HashSet;
import java.util.Map;
import java.util.Set;
import java.util.TreeMap;
import java.util.TreeSet;
import java.util.regex.Matcher;
import java.util.regex.Pattern;

/** The public face is the document's, and nothing else can be seen from outside. Run from the project's root. */
public final class FaceTest {
    private static final Due DUE = new Due("FaceTest");
    private static final Pattern METHOD = Pattern.compile("public (int|long) (\\w+)\\(([^)]*)\\);");
    private static final Pattern CONSTANT = Pattern.compile("([A-Z]+) = (-\\d+)[,;]");
    private static final Map<String, Integer> CONSTANTS = new TreeMap<>();

    public static void main(String[] args) throws ReflectiveOperationException {
        constants();
        methods();
        constructor();
        fields();
        classesInside();
        DUE.end();
    }

    private static void constants() throws ReflectiveOperationException {
        Matcher found = CONSTANT.matcher(Document.section(0));
        while (found.find()) CONSTANTS.put(found.group(1), Integer.parseInt(found.group(2)));
        DUE.is("constants of the document", 5, CONSTANTS.size());
        for (String name : CONSTANTS.keySet()) {
            Field field = SharesOfSeries.class.getDeclaredField(name);
            DUE.holds(name + " is a constant int", field.getModifiers() == (Modifier.PUBLIC | Modifier.STATIC | Modifier.FINAL)
                && field.getType() == int.class);
            DUE.is(name, CONSTANTS.get(name), field.getInt(null));
        }
        DUE.holds("the class is final", Modifier.isFinal(SharesOfSeries.class.getModifiers()));
        DUE.holds("the class is public", Modifier.isPublic(SharesOfSeries.class.getModifiers()));
    }

    private static void methods() {
        Set<String> due = documents();
        DUE.is("methods of the document", 30, due.size());
        Set<String> found = new TreeSet<>();
        Set<String> names = new HashSet<>();
        for (Method each : SharesOfSeries.class.getDeclaredMethods()) {
            if (Modifier.isPrivate(each.getModifiers())) continue;
            found.add(told(each));
            names.add(each.getName());
            DUE.holds(each + " is public and no static one", each.getModifiers() == Modifier.PUBLIC);
        }
        DUE.holds("methods " + found + " are " + due, found.equals(due));
        for (Method each : SharesOfSeries.class.getDeclaredMethods()) {
            if (Modifier.isPrivate(each.getModifiers())) {
                DUE.holds(each + " has a name of its own", !names.contains(each.getName()));
            }
        }
    }

    private static Set<String> documents() {
        Set<String> due = new TreeSet<>();
        Matcher found = METHOD.matcher(Document.section(0));
        while (found.find()) {
            String types = found.group(3).replaceAll("(\\w+) \\w+", "$1").replace(", ", ",");
            due.add(found.group(1) + " " + found.group(2) + "(" + types + ")");
        }
        return due;
    }

    private static String told(Method method) {
        StringBuilder text = new StringBuilder(method.getReturnType().getName()).append(' ');
        text.append(method.getName()).append('(');
        for (Class<?> type : method.getParameterTypes()) {
            if (text.charAt(text.length() - 1) != '(') text.append(',');
            text.append(type.getName());
        }
        return text.append(')').toString();
    }

    private static void constructor() {
        Constructor<?>[] found = SharesOfSeries.class.getDeclaredConstructors();
        DUE.is("constructors", 1, found.length);
        DUE.is("its parameters", 0, found[0].getParameterCount());
        DUE.holds("it is public", Modifier.isPublic(found[0].getModifiers()));
    }

    private static void fields() {
        for (Field each : SharesOfSeries.class.getDeclaredFields()) {
            int modifiers = each.getModifiers();
            DUE.holds(each + " is seen just if it is of the document",
                CONSTANTS.containsKey(each.getName()) == !Modifier.isPrivate(modifiers));
            if (Modifier.isStatic(modifiers)) DUE.holds(each + " is final", Modifier.isFinal(modifiers));
        }
    }

    private static void classesInside() {
        Class<?>[] inside = SharesOfSeries.class.getDeclaredClasses();
        DUE.holds("twelve classes at most", inside.length < 12);
        for (Class<?> each : inside) {
            DUE.holds(each + " is static", Modifier.isStatic(each.getModifiers()));
            DUE.holds(each + " has no public side", !Modifier.isPublic(each.getModifiers()));
            for (Field field : each.getDeclaredFields()) {
                DUE.holds(field + " is no static state",
                    !Modifier.isStatic(field.getModifiers()) || Modifier.isFinal(field.getModifiers()));
            }
        }
    }
}
