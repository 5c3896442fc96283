import java.lang.reflect.Constructor;
import java.lang.reflect.Field;
import java.lang.reflect.Method;
import java.lang.reflect.Modifier;
import java.util.Arrays;
import java.util.Set;
import java.util.TreeSet;

/** The public face: what the document names, and nothing else (rules 1 and 5 of the language). */
public final class FaceTest {
    private static final String[] METHODS = {
        "house/2", "strip/3", "rain/2", "beasts/2", "sow/1", "reap/1", "week/1", "land/2", "hold/2",
        "hunger/1", "feed/2", "make/2", "clear/0", "law/3", "text/2", "stray/2", "book/2", "apart/1",
        "court/0", "swap/2", "better/0", "fewest/1", "count/1",
    };

    public static void main(String[] args) {
        constants();
        methods();
        constructors();
        nested(OpenFields.class);
        Check.end();
    }

    private static void constants() {
        Check.is("NONE", OpenFields.NONE, -1);
        Check.is("FULL", OpenFields.FULL, -2);
        Check.is("STATE", OpenFields.STATE, -3);
        Check.is("EMPTY", OpenFields.EMPTY, -4);
        Check.is("LAW", OpenFields.LAW, -5);
        Set<String> visible = new TreeSet<>();
        for (Field field : OpenFields.class.getDeclaredFields()) {
            if (!Modifier.isPrivate(field.getModifiers())) {
                visible.add(field.getName());
            }
        }
        Check.that("constants " + visible, visible.equals(Set.of("NONE", "FULL", "STATE", "EMPTY", "LAW")));
    }

    private static void methods() {
        Set<String> visible = new TreeSet<>();
        for (Method method : OpenFields.class.getDeclaredMethods()) {
            if (!Modifier.isPrivate(method.getModifiers())) {
                Check.that(method.getName() + " answers an int", method.getReturnType() == int.class);
                Check.that(method.getName() + " is public", Modifier.isPublic(method.getModifiers()));
                Check.that(method.getName() + " is no static one", !Modifier.isStatic(method.getModifiers()));
                visible.add(method.getName() + "/" + method.getParameterCount());
            }
        }
        Check.that("methods " + visible, visible.equals(new TreeSet<>(Arrays.asList(METHODS))));
    }

    private static void constructors() {
        Constructor<?>[] all = OpenFields.class.getDeclaredConstructors();
        Check.is("constructors", all.length, 1);
        Check.that("it is public", Modifier.isPublic(all[0].getModifiers()));
        Check.is("its parameters", all[0].getParameterCount(), 0);
        Check.that("the class is final", Modifier.isFinal(OpenFields.class.getModifiers()));
    }

    private static void nested(Class<?> outer) {
        for (Class<?> inner : outer.getDeclaredClasses()) {
            Check.that(inner + " is static", Modifier.isStatic(inner.getModifiers()));
            for (Method method : inner.getDeclaredMethods()) {
                for (String name : METHODS) {
                    Check.that(inner + " has no " + name, !name.startsWith(method.getName() + "/"));
                }
            }
        }
        for (Field field : outer.getDeclaredFields()) {
            int modifiers = field.getModifiers();
            Check.that(field + " is no static state", !Modifier.isStatic(modifiers) || Modifier.isFinal(modifiers));
        }
    }
}
