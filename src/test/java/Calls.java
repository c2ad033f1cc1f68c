import java.lang.reflect.Method;
import java.util.Arrays;

/** The calls of the face by number, on the class or on the model, which have the same names. */
final class Calls {
    static final String[] NAMES = {"write", "wipe", "fault", "lay", "edge", "dot", "drop", "measure", "undo", "cell",
        "far", "nearest", "rings", "turn", "lies", "pose", "fits", "bound", "tells", "best", "spread", "take",
        "takes", "ledger", "count"};

    private final Object target;
    private final Method[] methods = new Method[NAMES.length];

    Calls(Object target) {
        this.target = target;
        for (Method m : target.getClass().getDeclaredMethods()) {
            int call = Arrays.asList(NAMES).indexOf(m.getName());
            if (call >= 0) {
                methods[call] = m;
            }
        }
    }

    /** As many of the numbers as the call takes are handed to it; what it throws ends the test. */
    int call(int call, int... numbers) {
        Method method = methods[call];
        Object[] handed = new Object[method.getParameterCount()];
        for (int i = 0; i < handed.length; i++) {
            handed[i] = numbers[i];
        }
        try {
            return (Integer) method.invoke(target, handed);
        } catch (ReflectiveOperationException thrown) {
            throw new IllegalStateException(NAMES[call] + Arrays.toString(handed) + " threw", thrown);
        }
    }
}
