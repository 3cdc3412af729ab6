import java.lang.reflect.Constructor;
import java.lang.reflect.Field;
import java.lang.reflect.Method;
import java.lang.reflect.Modifier;
import java.util.Arrays;
import java.util.Set;
import java.util.TreeSet;

/** The public face is the document's, and nothing more (LANGUAGE.md, rule 1). */
public final class FaceTest {
    private static final String[] METHODS = {
        "int house(int,int,int,int,int)", "int pillar(int,int,int)", "int pillars(int,int,int,int,int)",
        "int clock(int,int,int)", "int wind(int,boolean)", "int set(int)", "int about(int,int)",
        "long stopped(int)", "int fallen(int,int,int)", "int would(int,int,int,int,int,int,int)",
        "int shake(int,int,int,int,int,int)", "int report(int,int,int,int)", "int look(int)",
        "int turn(int,boolean)", "int told(int,int)", "int forget()", "int fits()", "int fit(int,int)",
        "int span(int,int)", "int way(int)", "int nearest(int)", "int wrong(int)", "int mistaken()",
        "int cart(int)", "int next(int,int)", "int which(int,int,int,int,int,int,int)",
        "int was(int,int,int,int)", "int row(int,int)", "int families(int)", "int sheet(int,int,int)",
        "int lose(int)", "int put(int,int,int)", "long at(int,int,int)", "int tell(int)",
        "int guard(int)", "int as(int,int)", "int trace()", "int fault()", "int many(int)",
    };

    public static void main(String[] args) {
        Check check = new Check("FaceTest");
        constants(check);
        methods(check);
        nested(check);
        check.finish();
    }

    private static void constants(Check check) {
        check.due("UNKNOWN", DragonJars.UNKNOWN, -1);
        check.due("OUTSIDE", DragonJars.OUTSIDE, -2);
        check.due("STATE", DragonJars.STATE, -3);
        check.due("FULL", DragonJars.FULL, -4);
        check.due("NONE", DragonJars.NONE, -9);
        check.due("LOST", DragonJars.LOST, Long.MIN_VALUE);
        int seen = 0;
        for (Field field : DragonJars.class.getDeclaredFields()) {
            if (!Modifier.isPrivate(field.getModifiers())) {
                seen++;
            }
        }
        check.due("constants to be seen", seen, 6);
    }

    private static void methods(Check check) {
        int modifiers = DragonJars.class.getModifiers();
        check.dueTrue("public final class", Modifier.isPublic(modifiers) && Modifier.isFinal(modifiers));
        Constructor<?>[] made = DragonJars.class.getDeclaredConstructors();
        check.due("constructors", made.length, 1);
        check.due("what the constructor takes", made[0].getParameterCount(), 0);
        check.dueTrue("the constructor is public", Modifier.isPublic(made[0].getModifiers()));
        Set<String> seen = new TreeSet<>();
        Set<String> names = new TreeSet<>();
        Set<String> hidden = new TreeSet<>();
        for (Method method : DragonJars.class.getDeclaredMethods()) {
            if (Modifier.isPrivate(method.getModifiers())) {
                hidden.add(method.getName());
            } else {
                check.dueTrue(method + " is public and no static one",
                    Modifier.isPublic(method.getModifiers()) && !Modifier.isStatic(method.getModifiers()));
                seen.add(told(method));
                names.add(method.getName());
            }
        }
        check.dueTrue("the methods are " + METHODS.length + " of the document, and are " + seen,
            seen.equals(new TreeSet<>(Arrays.asList(METHODS))));
        for (String name : hidden) {
            check.dueTrue("private " + name + " bears no public name", !names.contains(name));
        }
    }

    private static String told(Method method) {
        StringBuilder text = new StringBuilder();
        text.append(method.getReturnType()).append(' ').append(method.getName()).append('(');
        Class<?>[] types = method.getParameterTypes();
        for (int i = 0; i < types.length; i++) {
            text.append(i == 0 ? "" : ",").append(types[i]);
        }
        return text.append(')').toString();
    }

    private static void nested(Check check) {
        Class<?>[] inside = DragonJars.class.getDeclaredClasses();
        check.dueTrue("some twelve classes at most", inside.length <= 12);
        for (Class<?> one : inside) {
            int modifiers = one.getModifiers();
            check.dueTrue(one + " is static", Modifier.isStatic(modifiers) || one.isInterface());
            check.dueTrue(one + " is not public", !Modifier.isPublic(modifiers)
                && !Modifier.isProtected(modifiers));
            int fields = 0;
            for (Field field : one.getDeclaredFields()) {
                fields += Modifier.isStatic(field.getModifiers()) ? 0 : 1;
            }
            check.dueTrue(one + " has some twenty fields at most", fields <= 20);
        }
    }
}
