import java.lang.reflect.InvocationTargetException;
import java.lang.reflect.Method;
import java.lang.reflect.Modifier;
import java.util.Arrays;
import java.util.Comparator;
import java.util.function.Supplier;
import java.util.function.ToIntFunction;

/** A test class of which each method without parameters is the test of one boundary case. */
abstract class Cases {
    static final int MOST = Integer.MAX_VALUE;
    static final int LEAST = Integer.MIN_VALUE;

    private final Checks checks = new Checks(getClass().getSimpleName());
    private String now = "";

    /** Runs the cases by the order of their names, none of them forgotten, and ends the test. */
    final void runAll() throws IllegalAccessException, InvocationTargetException {
        Method[] methods = getClass().getDeclaredMethods();
        Arrays.sort(methods, Comparator.comparing(Method::getName));
        int cases = 0;
        for (Method method : methods) {
            if (isCase(method)) {
                now = method.getName();
                method.invoke(this);
                cases++;
            }
        }
        System.out.println(cases + " boundary cases");
        due("there are cases", cases > 0 ? 1 : 0, 1);
        checks.end();
    }

    private static boolean isCase(Method method) {
        int others = Modifier.STATIC | Modifier.PRIVATE;
        return method.getParameterCount() == 0 && (method.getModifiers() & others) == 0 && !method.isSynthetic();
    }

    final void due(String call, long got, long want) {
        checks.due(now + ": " + call, got, want);
    }

    final void same(String call, String got, String want) {
        checks.same(now + ": " + call, got, want);
    }

    /** The call answers an error or NONE, and all is then as without it: what is told, undone, restored and read. */
    final void refused(String call, Supplier<CheapProofs> scene, ToIntFunction<CheapProofs> made, int want) {
        CheapProofs x = scene.get();
        due(call, made.applyAsInt(x), want);
        same(call + " changes nothing", Told.drained(x), Told.drained(scene.get()));
    }

    /** The same for a call whose argument runs through some values. */
    final void refusedEach(int[] values, Supplier<CheapProofs> scene, Call made, int want) {
        for (int value : values) {
            refused("with " + value, scene, x -> made.of(x, value), want);
        }
    }

    /** An act answers so, and one state is recorded, the one that was before; the scene has fewer than 4 states. */
    final void recorded(String call, Supplier<CheapProofs> scene, ToIntFunction<CheapProofs> made, int want) {
        CheapProofs x = scene.get();
        int before = x.count(9);
        due(call, made.applyAsInt(x), want);
        due(call + ": states", x.count(9), before + 1);
        x.undo();
        same("undo of " + call, Told.drained(x), Told.drained(scene.get()));
    }

    /** A call with one argument that matters. */
    interface Call {
        int of(CheapProofs x, int value);
    }
}
