import java.util.function.Consumer;

/**
 * Every argument of every call at and beside all its edges, up to those where int wraps around, on
 * objects that have nothing, little, all that they may have, and more rows than can be told; held
 * against Model.
 */
public final class SweepTest {
    private static final int LEAST = Integer.MIN_VALUE;
    private static final int MOST = Integer.MAX_VALUE;
    private static final int[] EDGES = {
        LEAST, LEAST + 1, LEAST + 9, LEAST + 10, -65536, -104, -11, -10, -2, -1, 0, 1, 2, 3, 4, 5, 6,
        7, 9, 10, 11, 12, 13, 14, 15, 16, 17, 21, 22, 23, 40, 112, 113, 3999, 4000, 4001, 65536,
        MOST - 10, MOST - 9, MOST - 1, MOST};

    private static final String[] QUESTIONS = {
        "about", "choice", "object", "end", "look", "endOf"};
    private static final String[] CHANGES = {
        "kind", "field", "input", "bound", "rule", "put", "step"};

    private final Checks checks = new Checks();

    private static int arguments(String name) {
        switch (name) {
            case "step":
                return 5;
            case "rule":
                return 4;
            case "field":
            case "object":
                return 3;
            case "choice":
            case "end":
            case "look":
                return 2;
            default:
                return 1;
        }
    }

    private static void nothing(Twin twin) {
        twin.ask("put", 0);
        twin.ask("empty");
    }

    /** Kind 0 with a REF and a NUMBER, kind 1 under it with one more NUMBER; five or more rows. */
    private static void little(Twin twin) {
        twin.ask("kind", -1);
        twin.ask("field", 0, 0, 0);
        twin.ask("field", 0, 1, 1);
        twin.ask("kind", 0);
        twin.ask("field", 1, 1, 2);
        twin.ask("input", 0);
        twin.ask("bound", 1);
        twin.ask("rule", 5, 1, 0, 1);
        twin.ask("step", 0, 0, 0, 2, 0);
        twin.ask("step", 1, 2, 2, 1, 1);
        twin.ask("put", 10);
        twin.ask("put", 0);
    }

    private static void full(Twin twin) {
        twin.ask("kind", -1);
        twin.ask("field", 0, 0, 0);
        twin.ask("field", 0, 1, 3);
        twin.ask("field", 0, 1, 1);
        twin.ask("field", 0, 1, 2);
        twin.ask("kind", 0);
        twin.ask("kind", -1);
        twin.ask("kind", -1);
        for (int f = 0; f < 4; f++) {
            twin.ask("field", 2, 0, 2);
            twin.ask("field", 3, 1, 3);
        }
        twin.ask("input", 0);
        twin.ask("input", 2);
        twin.ask("bound", 1);
        for (int n = 0; n < 6; n++) {
            twin.ask("rule", n == 0 ? 5 : 4, 0, 0, n % 3 + 1);
        }
        for (int n = 0; n < 16; n++) {
            twin.ask("step", n % 2, 0, n % 4, 3, 1);
        }
        for (int n = 0; n < 40; n++) {
            twin.ask("put", n);
        }
    }

    private static void tooMany(Twin twin) {
        twin.ask("kind", -1);
        twin.ask("field", 0, 0, 0);
        twin.ask("field", 0, 1, 3);
        twin.ask("input", 0);
        twin.ask("bound", 5);
        twin.ask("rule", 1, 0, 0, -1);
        twin.ask("step", 0, 0, 0, 0, 0);
        twin.ask("put", 0);
    }

    /** The argument at a place goes over all edges, the others are 0 or 1. */
    private static void vectors(int size, int place, Consumer<int[]> each) {
        for (int others = 0; others < 1 << size; others++) {
            boolean once = (others >> place & 1) == 0;
            for (int e = 0; once && e < EDGES.length; e++) {
                int[] numbers = new int[size];
                for (int n = 0; n < size; n++) {
                    numbers[n] = n == place ? EDGES[e] : others >> n & 1;
                }
                each.accept(numbers);
            }
        }
    }

    private void askQuestions(String state, Consumer<Twin> build) {
        for (String name : QUESTIONS) {
            for (int place = 0; place < arguments(name); place++) {
                Twin twin = new Twin(state, checks);
                build.accept(twin);
                vectors(arguments(name), place, numbers -> twin.ask(name, numbers));
                twin.askAll();
            }
        }
    }

    private void makeChanges(String state, Consumer<Twin> build) {
        for (String name : CHANGES) {
            for (int place = 0; place < arguments(name); place++) {
                vectors(arguments(name), place, numbers -> {
                    Twin twin = new Twin(state, checks);
                    build.accept(twin);
                    twin.ask(name, numbers);
                    twin.askAll();
                });
            }
        }
    }

    /** All rules that can be asked for near what there is. */
    private void makeRules(String state, Consumer<Twin> build) {
        for (int sort = -1; sort <= 7; sort++) {
            for (int kind = -1; kind <= 2; kind++) {
                Twin twin = new Twin(state, checks);
                build.accept(twin);
                for (int f = -1; f <= 3; f++) {
                    for (int g = -2; g <= 3; g++) {
                        twin.ask("clear");
                        twin.ask("rule", sort, kind, f, g);
                        twin.ask("kept");
                    }
                }
            }
        }
    }

    private void sweep(String state, Consumer<Twin> build) {
        askQuestions(state, build);
        makeChanges(state, build);
        makeRules(state, build);
    }

    public static void main(String[] args) {
        SweepTest test = new SweepTest();
        test.sweep("nothing", SweepTest::nothing);
        test.sweep("little", SweepTest::little);
        test.sweep("full", SweepTest::full);
        test.askQuestions("too many", SweepTest::tooMany);
        test.checks.finish("SweepTest");
    }
}
