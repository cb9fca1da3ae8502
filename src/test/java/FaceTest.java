import java.lang.reflect.Constructor;
import java.lang.reflect.Field;
import java.lang.reflect.Member;
import java.lang.reflect.Method;
import java.lang.reflect.Modifier;
import java.util.ArrayList;
import java.util.Arrays;
import java.util.Collections;
import java.util.HashSet;
import java.util.List;
import java.util.Set;

/** The public face of the document, word for word, and the sizes that LANGUAGE.md allows. */
public final class FaceTest {
    private static final String[] METHODS = {
        "int camera(int, int, int) IllegalArgument IllegalState",
        "int clock(int, int) IndexOutOfBounds IllegalArgument",
        "int cloud(int, int) IndexOutOfBounds IllegalArgument IllegalState",
        "void begin(int, int, int, int, int) IndexOutOfBounds IllegalArgument IllegalState",
        "int end(int, int, int, int) IllegalArgument IllegalState",
        "int fireball(int) IndexOutOfBounds",
        "int fireballAnew(int) IndexOutOfBounds",
        "int fireballs(int) IllegalArgument",
        "long told(int, int) IndexOutOfBounds IllegalArgument",
        "boolean stream(int, int) IndexOutOfBounds",
        "int flux(int, int, int) IllegalArgument",
        "void wind(int, int, int) IllegalArgument IllegalState",
        "long walk(int, int, int, int) IndexOutOfBounds IllegalArgument IllegalState",
        "long chance(int, int, int) IndexOutOfBounds IllegalArgument",
        "int find(int, int, int, int, int) IllegalArgument IllegalState",
        "int fall(int) IndexOutOfBounds",
        "void minerals(int, int, int, int) IndexOutOfBounds IllegalArgument",
        "void rule(int, int, int) IllegalArgument",
        "int classOf(int, int) IndexOutOfBounds IllegalArgument",
        "boolean pair(int, int, int) IndexOutOfBounds IllegalArgument",
        "int cut(int, int, int) IndexOutOfBounds IllegalArgument IllegalState",
        "void lend(int, int) IndexOutOfBounds IllegalArgument IllegalState",
        "void steal(int) IndexOutOfBounds IllegalState",
        "int law(int, int) IllegalArgument",
        "int give(int, int) IndexOutOfBounds IllegalArgument IllegalState",
        "int name(int, int) IndexOutOfBounds IllegalArgument IllegalState",
        "boolean doubt(int, boolean) IndexOutOfBounds IllegalState",
        "int stone(int, int) IndexOutOfBounds IllegalArgument",
        "int whole(int) IndexOutOfBounds",
    };
    private static final Set<String> CONSTANTS = Set.of("NONE", "KEPT", "LENT", "STOLEN");

    private FaceTest() {
    }

    public static void main(String[] args) {
        Checks checks = new Checks();
        checks.test("the public face: \"public final class\"", FaceTest::publicAndFinal);
        checks.test("the public face: \"The constants\"", FaceTest::constants);
        checks.test("the public face: its methods, and no others", FaceTest::methods);
        checks.test("the public face: its constructor, and no other", FaceTest::constructors);
        checks.test("LANGUAGE.md 1: all else is private", FaceTest::allElsePrivate);
        checks.test("LANGUAGE.md 2, 5: classes inside are static, static fields final", FaceTest::staticFinal);
        checks.test("LANGUAGE.md 11: parameters, classes and fields", FaceTest::sizes);
        checks.finish();
    }

    private static void publicAndFinal() {
        Checks.yes(Modifier.isPublic(FireNet.class.getModifiers()));
        Checks.yes(Modifier.isFinal(FireNet.class.getModifiers()));
        same("", FireNet.class.getPackageName());
    }

    private static void constants() {
        Checks.equal(-1, FireNet.NONE);
        Checks.equal(0, FireNet.KEPT);
        Checks.equal(1, FireNet.LENT);
        Checks.equal(2, FireNet.STOLEN);
        Set<String> found = new HashSet<>();
        for (Field field : FireNet.class.getFields()) {
            found.add(field.getName());
            same("public static final int", Modifier.toString(field.getModifiers()) + " " + field.getType());
        }
        same(CONSTANTS, found);
    }

    private static void methods() {
        List<String> due = new ArrayList<>(Arrays.asList(METHODS));
        List<String> found = new ArrayList<>();
        for (Method method : FireNet.class.getDeclaredMethods()) {
            if (Modifier.isPublic(method.getModifiers())) {
                found.add(described(method));
            }
        }
        Collections.sort(due);
        Collections.sort(found);
        same(due, found);
    }

    private static String described(Method method) {
        List<String> types = new ArrayList<>();
        for (Class<?> type : method.getParameterTypes()) {
            types.add(type.getName());
        }
        StringBuilder text = new StringBuilder();
        text.append(method.getReturnType()).append(' ').append(method.getName());
        text.append('(').append(String.join(", ", types)).append(')');
        for (Class<?> type : method.getExceptionTypes()) {
            text.append(' ').append(type.getSimpleName().replace("Exception", ""));
        }
        return text.toString();
    }

    private static void constructors() {
        Constructor<?>[] all = FireNet.class.getDeclaredConstructors();
        Checks.equal(1, all.length);
        Checks.yes(Modifier.isPublic(all[0].getModifiers()));
        Checks.equal(0, all[0].getParameterCount());
        Checks.equal(0, all[0].getExceptionTypes().length);
    }

    private static void allElsePrivate() {
        List<Member> members = new ArrayList<>();
        members.addAll(Arrays.asList(FireNet.class.getDeclaredFields()));
        members.addAll(Arrays.asList(FireNet.class.getDeclaredMethods()));
        Set<String> face = new HashSet<>();
        for (Member member : members) {
            if (Modifier.isPublic(member.getModifiers())) {
                face.add(member.getName());
            }
        }
        for (Member member : members) {
            boolean free = member.isSynthetic() || Modifier.isPublic(member.getModifiers());
            if (!free && (!Modifier.isPrivate(member.getModifiers()) || face.contains(member.getName()))) {
                throw new AssertionError("not private, or named as one of the face is: " + member);
            }
        }
    }

    private static List<Class<?>> allClasses() {
        List<Class<?>> all = new ArrayList<>(Arrays.asList(FireNet.class.getDeclaredClasses()));
        all.add(FireNet.class);
        return all;
    }

    private static void staticFinal() {
        for (Class<?> one : allClasses()) {
            int is = one.getModifiers();
            boolean inside = one != FireNet.class;
            if (inside && (!Modifier.isStatic(is) || Modifier.isPublic(is) || Modifier.isProtected(is))) {
                throw new AssertionError("a class inside is not static, or more than package-visible: " + one);
            }
            for (Field field : one.getDeclaredFields()) {
                if (Modifier.isStatic(field.getModifiers()) && !Modifier.isFinal(field.getModifiers())) {
                    throw new AssertionError("a static field is not final: " + field);
                }
            }
        }
    }

    private static void sizes() {
        Checks.yes(allClasses().size() <= 12);
        for (Class<?> one : allClasses()) {
            int fields = 0;
            for (Field field : one.getDeclaredFields()) {
                fields += Modifier.isStatic(field.getModifiers()) ? 0 : 1;
            }
            Checks.yes(fields <= 20);
            for (Method method : one.getDeclaredMethods()) {
                Checks.yes(method.getParameterCount() <= 7);
            }
            for (Constructor<?> made : one.getDeclaredConstructors()) {
                Checks.yes(made.getParameterCount() <= 7);
            }
        }
    }

    private static void same(Object due, Object got) {
        if (!due.equals(got)) {
            throw new AssertionError("found " + got + ", due is " + due);
        }
    }
}
