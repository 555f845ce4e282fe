import java.lang.reflect.Constructor;
import java.lang.reflect.Field;
import java.lang.reflect.Method;
import java.lang.reflect.Modifier;
import java.util.Arrays;
import java.util.List;
import java.util.Set;
import java.util.TreeSet;

/** The public face of the document, its constants, and what LANGUAGE.md says of all members. */
public final class FaceTest {
    private static final Checks checks = new Checks("FaceTest");

    private static final Class<?> DESK = DocumentaryCreditDesk.class;

    private static final String[] FACE = {
        "int append(int, int, int, int, int)",
        "int load(int) IllegalArgumentException",
        "int errorOffset()",
        "int creditCount()",
        "int presentationCount()",
        "int today()",
        "boolean isBusinessDay(int) IllegalArgumentException",
        "int extended(int) IllegalArgumentException",
        "int addBusinessDays(int, int) IllegalArgumentException",
        "int businessDays(int, int) IllegalArgumentException",
        "int parent(int) IndexOutOfBoundsException",
        "int bound(int, boolean) IndexOutOfBoundsException",
        "int expiry(int) IndexOutOfBoundsException",
        "int drawn(int) IndexOutOfBoundsException",
        "int transferred(int) IndexOutOfBoundsException",
        "int available(int) IndexOutOfBoundsException",
        "int creditOf(int) IndexOutOfBoundsException",
        "int state(int) IndexOutOfBoundsException",
        "int discrepancies(int) IndexOutOfBoundsException",
        "int deadline(int) IndexOutOfBoundsException",
        "int dueDay(int) IndexOutOfBoundsException",
        "int fee(int) IndexOutOfBoundsException",
        "long dueBetween(int, int)",
        "int check(int, int, int, int, int) IndexOutOfBoundsException IllegalArgumentException",
        "int lastDay(int, int) IndexOutOfBoundsException IllegalArgumentException",
        "int bestFit(int) IndexOutOfBoundsException",
        "int present(int, int, int, int, int) IndexOutOfBoundsException IllegalArgumentException"
            + " IllegalStateException",
        "int examine(int) IndexOutOfBoundsException IllegalStateException",
        "int waive(int) IndexOutOfBoundsException IllegalStateException",
        "int refuse(int) IndexOutOfBoundsException IllegalStateException",
        "int transfer(int, int, int) IndexOutOfBoundsException IllegalArgumentException"
            + " IllegalStateException",
        "int pass(int) IllegalArgumentException IllegalStateException",
        "int undo()",
        "long checksum()"};

    public static void main(String[] args) throws Exception {
        constants();
        classAndConstructor();
        methods();
        members();
        for (Class<?> inside : DESK.getDeclaredClasses()) {
            classInside(inside);
        }
        checks.due("classes", 1 + DESK.getDeclaredClasses().length <= 12, true);
        checks.end();
    }

    private static void constants() throws Exception {
        String[] names = {"SYNTAX_ERROR", "OUT_OF_RANGE", "TOO_MANY", "TOO_DEEP", "PENDING",
            "DISCREPANT", "HONOURED", "REFUSED"};
        int[] values = {-2, -3, -4, -5, 0, 1, 2, 3};
        for (int i = 0; i < names.length; i++) {
            Field constant = DESK.getField(names[i]);
            checks.due(names[i], constant.getInt(null), values[i]);
            checks.due(names[i] + " is an int", constant.getType() == int.class, true);
        }
        checks.due("public fields", DESK.getFields().length, names.length);
    }

    private static void classAndConstructor() {
        checks.due("modifiers of the class", DESK.getModifiers(), Modifier.PUBLIC | Modifier.FINAL);
        checks.due("package", DESK.getPackageName().isEmpty(), true);
        Constructor<?>[] constructors = DESK.getDeclaredConstructors();
        checks.due("constructors", constructors.length, 1);
        checks.due("its parameters", constructors[0].getParameterCount(), 0);
        checks.due("it is public", Modifier.isPublic(constructors[0].getModifiers()), true);
    }

    private static String told(Method method) {
        StringBuilder text = new StringBuilder();
        text.append(method.getReturnType()).append(' ').append(method.getName()).append('(');
        List<String> types = Arrays.stream(method.getParameterTypes()).map(Class::getName).toList();
        text.append(String.join(", ", types)).append(')');
        for (Class<?> thrown : method.getExceptionTypes()) {
            text.append(' ').append(thrown.getSimpleName());
        }
        return text.toString();
    }

    private static void methods() {
        Set<String> found = new TreeSet<>();
        for (Method method : DESK.getDeclaredMethods()) {
            if (Modifier.isPublic(method.getModifiers())) {
                found.add(told(method));
                checks.due(method + " is an object's", Modifier.isStatic(method.getModifiers()),
                        false);
            }
        }
        Set<String> wanted = new TreeSet<>(Arrays.asList(FACE));
        if (!found.equals(wanted)) {
            System.out.println("found  " + found + "\nwanted " + wanted);
        }
        checks.due("the public methods are the face's", found.equals(wanted), true);
    }

    private static boolean isFaceName(String name) {
        return Arrays.stream(FACE).anyMatch(each -> each.contains(" " + name + "("));
    }

    private static void members() {
        for (Method method : DESK.getDeclaredMethods()) {
            if (!Modifier.isPublic(method.getModifiers())) {
                checks.due(method + " is private", Modifier.isPrivate(method.getModifiers()), true);
                checks.due(method + " has a name of its own", isFaceName(method.getName()), false);
            }
            checks.due(method + " has few parameters", method.getParameterCount() <= 7, true);
        }
        for (Field field : DESK.getDeclaredFields()) {
            int modifiers = field.getModifiers();
            checks.due(field + " is public or private",
                    Modifier.isPublic(modifiers) || Modifier.isPrivate(modifiers), true);
        }
        staticFieldsAreFinal(DESK);
    }

    private static void staticFieldsAreFinal(Class<?> owner) {
        int ownFields = 0;
        for (Field field : owner.getDeclaredFields()) {
            if (Modifier.isStatic(field.getModifiers())) {
                checks.due(field + " is final", Modifier.isFinal(field.getModifiers()), true);
            } else {
                ownFields++;
            }
        }
        checks.due(owner + " has few fields", ownFields <= 20, true);
    }

    private static void classInside(Class<?> inside) {
        checks.due(inside + " is static", Modifier.isStatic(inside.getModifiers()), true);
        checks.due(inside + " is not public", Modifier.isPublic(inside.getModifiers()), false);
        for (Method method : inside.getDeclaredMethods()) {
            checks.due(method + " has a name of its own", isFaceName(method.getName()), false);
            checks.due(method + " has few parameters", method.getParameterCount() <= 7, true);
        }
        for (Constructor<?> constructor : inside.getDeclaredConstructors()) {
            checks.due(constructor + " has few parameters", constructor.getParameterCount() <= 7,
                    true);
        }
        staticFieldsAreFinal(inside);
    }
}
