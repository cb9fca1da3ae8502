import java.lang.reflect.InvocationTargetException;
import java.lang.reflect.Method;
import java.lang.reflect.Modifier;
import java.util.Arrays;

/** Every call with every mixture of arguments at and beyond the ends of ranges: it throws just what it may. */
public final class AnyArgumentsTest {
    private static final int[] INTS = {Integer.MIN_VALUE, -1, 0, 1, 4, Integer.MAX_VALUE};
    private static final int CALLS_OF_A_NET = 400;

    private final Edges.Scene scene;
    private FireNet net;
    private int calls = 0;

    private AnyArgumentsTest(Edges.Scene scene) {
        this.scene = scene;
        net = scene.made();
    }

    public static void main(String[] args) {
        Checks checks = new Checks();
        for (Method method : FireNet.class.getDeclaredMethods()) {
            if (Modifier.isPublic(method.getModifiers())) {
                String name = "terms, " + method.getName() + " throws just what its comment lists: ";
                checks.test(name + "a new object", () -> new AnyArgumentsTest(FireNet::new).callAll(method));
                checks.test(name + "something of all", () -> new AnyArgumentsTest(Scenes::rich).callAll(method));
                checks.test(name + "40 stones", () -> new AnyArgumentsTest(Scenes::fortyStones).callAll(method));
            }
        }
        checks.finish();
    }

    private void callAll(Method method) {
        Object[] arguments = new Object[method.getParameterCount()];
        int mixtures = 1;
        for (int i = 0; i < arguments.length; i++) {
            mixtures *= INTS.length;
        }
        for (int mixture = 0; mixture < mixtures; mixture++) {
            int left = mixture;
            for (int i = 0; i < arguments.length; i++) {
                int value = INTS[left % INTS.length];
                arguments[i] = method.getParameterTypes()[i] == int.class ? (Object) value : (Object) (value > 0);
                left /= INTS.length;
            }
            call(method, arguments);
        }
    }

    private void call(Method method, Object[] arguments) {
        calls++;
        if (calls % CALLS_OF_A_NET == 0) {
            net = scene.made();
        }
        try {
            method.invoke(net, arguments);
        } catch (InvocationTargetException e) {
            allowed(method, arguments, e.getCause());
        } catch (IllegalAccessException e) {
            throw new AssertionError(e);
        }
    }

    private static void allowed(Method method, Object[] arguments, Throwable thrown) {
        boolean listed = Arrays.asList(method.getExceptionTypes()).contains(thrown.getClass());
        if (!listed || !Checks.isThrownByFireNet((RuntimeException) thrown)) {
            throw new AssertionError(Arrays.toString(arguments) + " threw " + thrown);
        }
    }
}
