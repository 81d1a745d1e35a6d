import java.lang.reflect.Constructor;
import java.lang.reflect.Field;
import java.lang.reflect.Method;
import java.lang.reflect.Modifier;
import java.util.Set;
import java.util.TreeSet;

/** The public face of the document, and rule 1 of LANGUAGE.md: all of it, and nothing beside it. */
public final class FaceTest {
    private static final Due due = new Due();
    private static final String[] METHODS = {
        "int define(int,int,int,int)", "int slot(int,int,int,int)", "int make(int)", "int become(int,int)",
        "long get(int,int)", "long put(int,int,int)", "long unbind(int,int)", "int generic(int,int)",
        "int method(int,int,int,int,int)", "int remove(int)", "int step(int,int,int)", "int clear(int)",
        "long call(int,int,int)", "int precedence(int,int)", "int has(int,int)", "int look(int,int)",
        "int noted(int)", "int count(int)"
    };
    private static final String[] CONSTANTS = {
        "int REFUSED -1", "int NONE -2", "int FULL -3", "int CYCLE -4", "int ORDER -5", "int MISSING -6",
        "int UNBOUND -7", "int INAPPLICABLE -8", "int ALONE -9", "int LAST -10", "int DEEP -11",
        "long ERROR 1099511627776"
    };

    public static void main(String[] args) throws IllegalAccessException {
        int modifiers = ClassDesk.class.getModifiers();
        same("public and final", Modifier.isPublic(modifiers) && Modifier.isFinal(modifiers));
        methods();
        constants();
        constructors();
        classesInside();
        due.end();
    }

    private static void same(String what, boolean holds) {
        due.is(what, holds ? 1 : 0, 1);
    }

    private static String textOf(Method method) {
        StringBuilder text = new StringBuilder(method.getReturnType() + " " + method.getName() + "(");
        String between = "";
        for (Class<?> type : method.getParameterTypes()) {
            text.append(between).append(type);
            between = ",";
        }
        return text.append(")").toString();
    }

    private static void methods() {
        Set<String> wanted = new TreeSet<>(Set.of(METHODS));
        Set<String> names = new TreeSet<>();
        for (Method method : ClassDesk.class.getDeclaredMethods()) {
            if (Modifier.isPublic(method.getModifiers())) {
                same(textOf(method) + " stands in the document", wanted.remove(textOf(method)));
                same(method.getName() + " is of an object", !Modifier.isStatic(method.getModifiers()));
                same(method.getName() + " declares no exception", method.getExceptionTypes().length == 0);
                names.add(method.getName());
            }
        }
        same("missing methods: " + wanted, wanted.isEmpty());
        for (Method method : ClassDesk.class.getDeclaredMethods()) {
            if (!Modifier.isPublic(method.getModifiers()) && !method.isSynthetic()) {
                same(method.getName() + " is private", Modifier.isPrivate(method.getModifiers()));
                same(method.getName() + " has no public name", !names.contains(method.getName()));
            }
        }
    }

    private static void constants() throws IllegalAccessException {
        Set<String> wanted = new TreeSet<>(Set.of(CONSTANTS));
        for (Field field : ClassDesk.class.getDeclaredFields()) {
            int modifiers = field.getModifiers();
            if (!Modifier.isPublic(modifiers)) {
                same(field.getName() + " is private", Modifier.isPrivate(modifiers) || field.isSynthetic());
                continue;
            }
            same(field.getName() + " is a constant", Modifier.isStatic(modifiers) && Modifier.isFinal(modifiers));
            String text = field.getType() + " " + field.getName() + " " + field.get(null);
            same(text + " stands in the document", wanted.remove(text));
        }
        same("missing constants: " + wanted, wanted.isEmpty());
    }

    private static void constructors() {
        Constructor<?>[] all = ClassDesk.class.getDeclaredConstructors();
        due.is("constructors", all.length, 1);
        same("public, without arguments", Modifier.isPublic(all[0].getModifiers()) && all[0].getParameterCount() == 0);
    }

    private static void classesInside() {
        for (Class<?> inside : ClassDesk.class.getDeclaredClasses()) {
            int modifiers = inside.getModifiers();
            same(inside.getName() + " is static", Modifier.isStatic(modifiers));
            same(inside.getName() + " is not seen", !Modifier.isPublic(modifiers) && !Modifier.isProtected(modifiers));
            for (Field field : inside.getDeclaredFields()) {
                same(inside.getName() + " has no static state",
                        !Modifier.isStatic(field.getModifiers()) || Modifier.isFinal(field.getModifiers()));
            }
        }
    }
}
