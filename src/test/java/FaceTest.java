import java.lang.reflect.Constructor;
import java.lang.reflect.Field;
import java.lang.reflect.Method;
import java.lang.reflect.Modifier;
import java.util.Arrays;
import java.util.TreeSet;

/** 'The public face': the class, its constants, its constructor and its methods, and nothing else that is not private. */
public final class FaceTest {
    private static final String[] METHODS = {
        "int write(int, long)", "int wipe()", "int fault()", "int lay()", "int player(int, int)", "int called(int, int)",
        "int stands(int, int)", "int chance(int, int)", "int thrown(int, int)", "int hidden(int, int)",
        "int safe(int, int)", "int run(int, int, int)", "long first(int, int, int)", "long rounds(int, int)",
        "int call(int, int, int, int)", "int letters(int, int)", "int undo()", "int seen(int, int, int)", "int forget()",
        "int kinds(int)", "int afternoon(int, int)", "int keep()", "int back()", "int count(int)",
    };

    public static void main(String[] args) {
        constants();
        typeAndConstructor();
        methods();
        innerClasses();
        Check.end();
    }

    /** 'BAD = -1, NO = -2, FULL = -3, NONE = -4'. */
    private static void constants() {
        Check.due("BAD", BallAndName.BAD, -1);
        Check.due("NO", BallAndName.NO, -2);
        Check.due("FULL", BallAndName.FULL, -3);
        Check.due("NONE", BallAndName.NONE, -4);
        TreeSet<String> names = new TreeSet<>();
        for (Field field : BallAndName.class.getDeclaredFields()) {
            int is = field.getModifiers();
            if (!Modifier.isPrivate(is)) {
                names.add(field.getName());
                Check.due(field.getName() + " is public static final int",
                        Modifier.isPublic(is) && Modifier.isStatic(is) && Modifier.isFinal(is)
                                && field.getType() == int.class ? 1 : 0, 1);
            }
        }
        Check.due("constants", names.equals(new TreeSet<>(Arrays.asList("BAD", "NO", "FULL", "NONE"))) ? 1 : 0, 1);
    }

    /** 'public final class BallAndName', 'public BallAndName()'. */
    private static void typeAndConstructor() {
        int is = BallAndName.class.getModifiers();
        Check.due("public", Modifier.isPublic(is) ? 1 : 0, 1);
        Check.due("final", Modifier.isFinal(is) ? 1 : 0, 1);
        Check.due("without a package", BallAndName.class.getPackageName().length(), 0);
        Constructor<?>[] constructors = BallAndName.class.getDeclaredConstructors();
        Check.due("one constructor", constructors.length, 1);
        Check.due("without arguments", constructors[0].getParameterCount(), 0);
        Check.due("public", Modifier.isPublic(constructors[0].getModifiers()) ? 1 : 0, 1);
    }

    /** The methods of the face, of these types, all public and of the object. */
    private static void methods() {
        TreeSet<String> found = new TreeSet<>();
        for (Method method : BallAndName.class.getDeclaredMethods()) {
            int is = method.getModifiers();
            if (Modifier.isPrivate(is) || method.isSynthetic()) {
                continue;
            }
            StringBuilder told = new StringBuilder();
            for (Class<?> type : method.getParameterTypes()) {
                told.append(told.length() == 0 ? "" : ", ").append(type.getName());
            }
            found.add(method.getReturnType().getName() + " " + method.getName() + "(" + told + ")");
            Check.due(method.getName() + " is public, not static",
                    Modifier.isPublic(is) && !Modifier.isStatic(is) ? 1 : 0, 1);
            Check.due(method.getName() + " throws nothing", method.getExceptionTypes().length, 0);
        }
        TreeSet<String> due = new TreeSet<>(Arrays.asList(METHODS));
        Check.due("methods: " + found, found.equals(due) ? 1 : 0, 1);
    }

    /** LANGUAGE.md, rules 1, 2 and 11: classes inside are static and not public; some twelve, of some twenty fields. */
    private static void innerClasses() {
        Class<?>[] inside = BallAndName.class.getDeclaredClasses();
        Check.due("classes in all, twelve at most", inside.length + 1 <= 12 ? 1 : 0, 1);
        for (Class<?> one : inside) {
            int is = one.getModifiers();
            Check.due(one.getName() + " is static", Modifier.isStatic(is) ? 1 : 0, 1);
            Check.due(one.getName() + " is not public", Modifier.isPublic(is) || Modifier.isProtected(is) ? 1 : 0, 0);
            fieldsOf(one);
        }
        fieldsOf(BallAndName.class);
    }

    private static void fieldsOf(Class<?> one) {
        int own = 0;
        for (Field field : one.getDeclaredFields()) {
            int is = field.getModifiers();
            own += Modifier.isStatic(is) ? 0 : 1;
            Check.due(one.getName() + "." + field.getName() + ": a static field is final",
                    Modifier.isStatic(is) && !Modifier.isFinal(is) ? 1 : 0, 0);
        }
        Check.due(one.getName() + ": fields, twenty at most", own <= 20 ? 1 : 0, 1);
    }
}
