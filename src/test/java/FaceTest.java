import java.lang.reflect.Array;
import java.lang.reflect.Constructor;
import java.lang.reflect.Field;
import java.lang.reflect.Method;
import java.lang.reflect.Modifier;
import java.util.Arrays;
import java.util.Collections;
import java.util.IdentityHashMap;
import java.util.Set;
import java.util.TreeSet;

/** The public face, and those rules of LANGUAGE.md that the compiled class shows. */
public final class FaceTest {
    private static final String[] FACE = {"feed(5)", "end(1)", "circuit(0)", "assertion(0)", "fails(0)", "excluded(0)",
        "failing(1)", "shortfall(2)", "value(3)", "matters(3)", "cone(1)", "count(1)"};
    private static final Class<?> RAILS = TrajectoryRails.class;

    private static int objects;
    private static int elements;

    public static void main(String[] args) throws IllegalAccessException {
        classIsPublicAndFinal();
        constants();
        onePublicConstructor();
        methodsOfTheFace();
        classesInside();
        staticFieldsAreFinal();
        sizes();
        callsKeepNothing();
        Rig.finish();
    }

    private static void yes(String what, boolean holds) {
        Rig.due(what, holds ? 1 : 0, 1);
    }

    private static boolean isSeen(int modifiers) {
        return !Modifier.isPrivate(modifiers);
    }

    private static void classIsPublicAndFinal() {
        yes("public", Modifier.isPublic(RAILS.getModifiers()));
        yes("final", Modifier.isFinal(RAILS.getModifiers()));
        yes("no package", RAILS.getPackageName().isEmpty());
        yes("no superclass", RAILS.getSuperclass() == Object.class);
        Rig.due("interfaces", RAILS.getInterfaces().length, 0);
    }

    private static void constants() {
        Rig.due("REFUSED", TrajectoryRails.REFUSED, -1);
        Rig.due("NONE", TrajectoryRails.NONE, -2);
        Rig.due("FULL", TrajectoryRails.FULL, -3);
        int seen = 0;
        for (Field field : RAILS.getDeclaredFields()) {
            if (isSeen(field.getModifiers())) {
                seen++;
                yes(field + " is a public constant", Modifier.isPublic(field.getModifiers())
                        && Modifier.isStatic(field.getModifiers()) && Modifier.isFinal(field.getModifiers())
                        && field.getType() == int.class);
            }
        }
        Rig.due("constants", seen, 3);
    }

    private static void onePublicConstructor() {
        Constructor<?>[] all = RAILS.getDeclaredConstructors();
        Rig.due("constructors", all.length, 1);
        yes("public", Modifier.isPublic(all[0].getModifiers()));
        Rig.due("its parameters", all[0].getParameterCount(), 0);
    }

    private static void methodsOfTheFace() {
        Set<String> found = new TreeSet<>();
        for (Method method : RAILS.getDeclaredMethods()) {
            if (isSeen(method.getModifiers()) && !method.isSynthetic()) {
                found.add(method.getName() + "(" + method.getParameterCount() + ")");
                yes(method + " is public", Modifier.isPublic(method.getModifiers()));
                yes(method + " is no static one", !Modifier.isStatic(method.getModifiers()));
                yes(method + " answers an int", method.getReturnType() == int.class);
                for (Class<?> parameter : method.getParameterTypes()) {
                    yes(method + " takes ints", parameter == int.class);
                }
            }
        }
        yes("the methods are " + found, found.equals(new TreeSet<>(Arrays.asList(FACE))));
    }

    private static void classesInside() {
        Set<String> face = new TreeSet<>();
        for (String method : FACE) {
            face.add(method.substring(0, method.indexOf('(')));
        }
        for (Class<?> inside : RAILS.getDeclaredClasses()) {
            yes(inside + " is static", Modifier.isStatic(inside.getModifiers()));
            yes(inside + " is not public", !Modifier.isPublic(inside.getModifiers()));
            for (Method method : inside.getDeclaredMethods()) {
                yes(method + " has a name of its own", !face.contains(method.getName()));
            }
        }
    }

    private static Class<?>[] all() {
        Class<?>[] inside = RAILS.getDeclaredClasses();
        Class<?>[] all = Arrays.copyOf(inside, inside.length + 1);
        all[inside.length] = RAILS;
        return all;
    }

    private static void staticFieldsAreFinal() {
        for (Class<?> one : all()) {
            for (Field field : one.getDeclaredFields()) {
                yes(field + " is final, if static",
                        !Modifier.isStatic(field.getModifiers()) || Modifier.isFinal(field.getModifiers()));
            }
        }
    }

    private static void sizes() {
        yes("at most twelve classes", all().length <= 12);
        for (Class<?> one : all()) {
            long fields = Arrays.stream(one.getDeclaredFields()).filter(f -> !Modifier.isStatic(f.getModifiers())).count();
            yes(one + " has at most twenty fields", fields <= 20);
            for (Method method : one.getDeclaredMethods()) {
                yes(method + " takes at most seven", method.getParameterCount() <= 7);
            }
        }
    }

    /** What an object holds stays the same, in number, whatever is called: the one room is never filled. */
    private static void callsKeepNothing() throws IllegalAccessException {
        TrajectoryRails x = new TrajectoryRails();
        measure(x);
        int objectsAtFirst = objects;
        int elementsAtFirst = elements;
        yes("objects " + objects, objects <= 100);
        yes("fields and elements " + elements, elements <= 30000);
        Rig.circuit(x, "input a, b; wire c = a & !(b | 1); latch d = c ^ d;");
        Rig.circuit(x, "wire c = c;");
        Rig.assertion(x, "given a is A^B^C^D^E^F^G^H^I at 0 to 11 then d is I at 11, c is !(A & B).");
        Rig.assertion(x, "given a");
        for (int n = 0; n < 101; n++) {
            x.feed(n, n, n, n, n);
            x.failing(n);
            x.shortfall(n, 1);
            x.value(2, 1, n);
            x.matters(2, 1, n % 9);
        }
        measure(x);
        Rig.due("objects", objects, objectsAtFirst);
        Rig.due("fields and elements", elements, elementsAtFirst);
    }

    private static void measure(Object root) throws IllegalAccessException {
        objects = 0;
        elements = 0;
        visit(root, Collections.newSetFromMap(new IdentityHashMap<>()));
    }

    private static void visit(Object object, Set<Object> met) throws IllegalAccessException {
        if (object == null || !met.add(object)) {
            return;
        }
        objects++;
        if (object.getClass().isArray()) {
            elements += Array.getLength(object);
            for (int i = 0; i < Array.getLength(object) && object instanceof Object[]; i++) {
                visit(Array.get(object, i), met);
            }
            return;
        }
        for (Class<?> part = object.getClass(); part != Object.class; part = part.getSuperclass()) {
            for (Field field : part.getDeclaredFields()) {
                if (!Modifier.isStatic(field.getModifiers())) {
                    elements++;
                    field.setAccessible(true);
                    if (!field.getType().isPrimitive()) {
                        visit(field.get(object), met);
                    }
                }
            }
        }
    }
}
