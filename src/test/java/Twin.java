import java.lang.reflect.Method;
import java.lang.reflect.Modifier;
import java.util.Arrays;
import java.util.HashMap;
import java.util.Map;

/** A LazyHeaps and a Model that are told the same: the one's answers are due from the other. */
final class Twin {
    private static final Map<String, Method> METHODS = new HashMap<>();

    private final LazyHeaps heaps = new LazyHeaps();
    private final Model model = new Model();
    private final Checks checks;
    private final String run;

    Twin(String run, Checks checks) {
        this.run = run;
        this.checks = checks;
    }

    int ask(String name, int... numbers) {
        int want = answer(model, name, numbers);
        int got = answer(heaps, name, numbers);
        checks.due(run + ": " + name + Arrays.toString(numbers), got, want);
        return want;
    }

    /** Counts, rows and ends, by some thirty calls: what is there is the same still. */
    void askAll() {
        for (int what = 0; what < 14; what++) {
            ask("about", what);
        }
        int kept = ask("kept");
        int ends = ask("ends");
        ask("many");
        ask("rank");
        for (int k = 0; k < 4; k++) {
            ask("choice", kept - 1, k);
            ask("look", ends - 1, k);
            ask("end", ends - 1, k + 1);
        }
        ask("endOf", kept - 1);
    }

    private static int answer(Object asked, String name, int[] numbers) {
        try {
            Object[] boxed = Arrays.stream(numbers).boxed().toArray();
            return (Integer) method(asked.getClass(), name).invoke(asked, boxed);
        } catch (ReflectiveOperationException e) {
            throw new IllegalStateException(name + Arrays.toString(numbers), e);
        }
    }

    private static Method method(Class<?> of, String name) {
        return METHODS.computeIfAbsent(of.getName() + "." + name, key -> {
            for (Method method : of.getDeclaredMethods()) {
                boolean hidden = Modifier.isPrivate(method.getModifiers());
                if (!hidden && method.getName().equals(name)) {
                    return method;
                }
            }
            throw new IllegalStateException(key);
        });
    }
}
