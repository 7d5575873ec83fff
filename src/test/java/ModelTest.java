import java.util.Random;

/** Runs of calls, the same on LazyHeaps and on Model; all answers must be the same. */
public final class ModelTest {
    private static final int RUNS = 3000;
    private static final int CALLS = 40;

    private final Random random;
    private final Checks checks;
    private final String run;
    private final LazyHeaps heaps = new LazyHeaps();
    private final Model model = new Model();
    private final int wrongIn;

    private ModelTest(int seed, Checks checks) {
        // seeds that lie near each other begin alike, so they are spread
        this.random = new Random((seed + 1) * 0x9E3779B97F4A7C15L);
        this.checks = checks;
        this.run = "run " + seed + " ";
        this.wrongIn = 6 + random.nextInt(60);
    }

    /** Mostly within 0 .. n - 1, now and then beside it. */
    private int about(int n) {
        if (random.nextInt(wrongIn) == 0) {
            int[] odd = {-2, -1, n, n + 1, 99, Integer.MAX_VALUE, Integer.MIN_VALUE};
            return odd[random.nextInt(odd.length)];
        }
        return n <= 0 ? 0 : random.nextInt(n);
    }

    private void kind() {
        boolean top = random.nextInt(3) == 0 || (model.about(0) == 0 && random.nextInt(20) > 0);
        int above = top ? -1 : about(model.about(0));
        checks.due(run + "kind(" + above + ")", heaps.kind(above), model.kind(above));
    }

    private void field() {
        int kind = about(model.about(0));
        int sort = about(2);
        int of = sort == 1 ? 1 + about(3) : about(model.about(0));
        checks.due(run + "field(" + kind + ", " + sort + ", " + of + ")",
                heaps.field(kind, sort, of), model.field(kind, sort, of));
    }

    private void input() {
        int kind = about(model.about(0));
        checks.due(run + "input(" + kind + ")", heaps.input(kind), model.input(kind));
    }

    private void bound() {
        int n = 1 + about(random.nextInt(3) == 0 ? 5 : 3);
        checks.due(run + "bound(" + n + ")", heaps.bound(n), model.bound(n));
    }

    /** Mostly one that is of the sort asked for. */
    private int someField(int kind, boolean ref) {
        return random.nextInt(8) == 0 ? about(4) : model.someField(kind, ref, random.nextInt(4));
    }

    private void rule() {
        int sort = about(7);
        int kind = about(model.about(0));
        int f = someField(kind, true);
        int g = random.nextInt(6) == 0 ? -1 : someField(kind, sort < 4);
        checks.due(run + "rule(" + sort + ", " + kind + ", " + f + ", " + g + ")",
                heaps.rule(sort, kind, f, g), model.rule(sort, kind, f, g));
    }

    private void step() {
        int op = about(3);
        int v = random.nextInt(4) > 0 ? about(2) : about(4);
        int f = op == 2 ? about(4) : someField(about(model.about(0)), op == 0);
        int n = about(4);
        int m = random.nextInt(4) == 0 ? about(17) : about(3);
        checks.due(run + "step(" + op + ", " + v + ", " + f + ", " + n + ", " + m + ")",
                heaps.step(op, v, f, n, m), model.step(op, v, f, n, m));
    }

    /** The row becomes a kept one, or one a bit beside that. */
    private void row() {
        checks.due(run + "empty()", heaps.empty(), model.empty());
        int i = about(model.kept());
        for (int k = 0; k < 30; k++) {
            int c = model.choice(i, k);
            if (c < 0) {
                break;
            }
            if (random.nextInt(40) == 0) {
                c = about(14);
            }
            checks.due(run + "put(" + c + ")", heaps.put(c), model.put(c));
        }
        if (random.nextInt(10) == 0) {
            int c = about(14);
            checks.due(run + "put(" + c + ")", heaps.put(c), model.put(c));
        }
        checks.due(run + "rank()", heaps.rank(), model.rank());
    }

    private void askRows() {
        int i = about(model.kept());
        int k = about(23);
        int o = about(3);
        int what = about(5);
        checks.due(run + "many()", heaps.many(), model.many());
        checks.due(run + "kept()", heaps.kept(), model.kept());
        checks.due(run + "choice(" + i + ", " + k + ")", heaps.choice(i, k), model.choice(i, k));
        checks.due(run + "object(" + i + ", " + o + ", " + what + ")",
                heaps.object(i, o, what), model.object(i, o, what));
        checks.due(run + "rank()", heaps.rank(), model.rank());
    }

    private void askEnds() {
        int i = about(model.kept());
        int k = about(model.ends());
        int place = about(8);
        int what = about(5);
        checks.due(run + "end(" + k + ", " + what + ")", heaps.end(k, what), model.end(k, what));
        checks.due(run + "ends()", heaps.ends(), model.ends());
        checks.due(run + "look(" + k + ", " + place + ")",
                heaps.look(k, place), model.look(k, place));
        checks.due(run + "endOf(" + i + ")", heaps.endOf(i), model.endOf(i));
    }

    private void askAbout() {
        int what = random.nextBoolean() ? about(6) : 10 + about(4);
        checks.due(run + "about(" + what + ")", heaps.about(what), model.about(what));
    }

    /** Kinds with some fields and inputs, and then as high a bound as leaves rows to tell. */
    private void shape() {
        int kinds = 1 + random.nextInt(random.nextInt(4) == 0 ? 4 : 2);
        for (int k = 0; k < kinds; k++) {
            kind();
            for (int f = random.nextInt(k == 0 ? 4 : 3); f > 0; f--) {
                field();
            }
        }
        for (int i = random.nextInt(8) == 0 ? 0 : 1 + random.nextInt(2); i > 0; i--) {
            input();
        }
        for (int n = 1 + random.nextInt(5); n >= 1; n--) {
            checks.due(run + "bound(" + n + ")", heaps.bound(n), model.bound(n));
            if (model.many() != Model.ROOM) {
                break;
            }
        }
    }

    /** Rows of up to 22 choices and looks of up to 17: the longest that 4000 rows leave room for. */
    private void longShape() {
        int[][] fields = {{2, 0, 0}, {2, 0, 3}, {2, 0, 2}, {2, 0, 1}, {3, 0, 1}};
        for (int k = 0; k < 4; k++) {
            checks.due(run + "kind", heaps.kind(-1), model.kind(-1));
        }
        for (int[] f : fields) {
            checks.due(run + "field", heaps.field(f[0], f[1], f[2]), model.field(f[0], f[1], f[2]));
        }
        checks.due(run + "input", heaps.input(2), model.input(2));
        checks.due(run + "input", heaps.input(0), model.input(0));
        checks.due(run + "bound", heaps.bound(5), model.bound(5));
        checks.due(run + "step", heaps.step(2, 1, 0, 0, 0), model.step(2, 1, 0, 0, 0));
        for (int n = 0; n < 15; n++) {
            int f = new int[] {3, 0, 1, 2}[n % 4];
            int to = f == 2 ? 0 : 3;
            checks.due(run + "step", heaps.step(0, 0, f, to, 0), model.step(0, 0, f, to, 0));
        }
    }

    private void askLongRow(int i) {
        checks.due(run + "empty", heaps.empty(), model.empty());
        for (int k = 0; k < 23; k++) {
            int c = model.choice(i, k);
            checks.due(run + "choice(" + i + ", " + k + ")", heaps.choice(i, k), c);
            if (c != Model.NONE) {
                checks.due(run + "put", heaps.put(c), model.put(c));
            }
        }
        checks.due(run + "rank() of " + i, heaps.rank(), i);
        int k = model.endOf(i);
        checks.due(run + "endOf(" + i + ")", heaps.endOf(i), k);
        for (int place = 0; place < 18; place++) {
            checks.due(run + "look(" + k + ", " + place + ")",
                    heaps.look(k, place), model.look(k, place));
        }
        for (int what = 0; what < 5; what++) {
            checks.due(run + "end(" + k + ", " + what + ")",
                    heaps.end(k, what), model.end(k, what));
        }
    }

    private static void longRows(Checks checks) {
        for (int part = 0; part < 60; part++) {
            ModelTest test = new ModelTest(part, checks);
            test.longShape();
            int rows = test.model.kept();
            checks.due("long rows", test.heaps.kept(), rows);
            checks.due("long ends", test.heaps.ends(), test.model.ends());
            for (int n = 0; n < 5; n++) {
                test.askLongRow((part * 5 + n) * (rows - 1) / 299);
            }
        }
    }

    private void changeShape() {
        int turn = random.nextInt(20);
        if (turn < 3) {
            kind();
        } else if (turn < 8) {
            field();
        } else if (turn < 10) {
            input();
        } else {
            bound();
        }
    }

    private void one() {
        int turn = random.nextInt(100);
        if (turn < 5) {
            changeShape();
        } else if (turn < 17) {
            rule();
        } else if (turn < 21) {
            checks.due(run + "clear()", heaps.clear(), model.clear());
        } else if (turn < 41) {
            step();
        } else if (turn < 43) {
            checks.due(run + "erase()", heaps.erase(), model.erase());
        } else if (turn < 55) {
            row();
        } else if (turn < 75) {
            askRows();
        } else if (turn < 95) {
            askEnds();
        } else {
            askAbout();
        }
    }

    public static void main(String[] args) {
        Checks checks = new Checks();
        longRows(checks);
        int runs = args.length > 0 ? Integer.parseInt(args[0]) : RUNS;
        for (int seed = 0; seed < runs; seed++) {
            ModelTest test = new ModelTest(seed, checks);
            if (seed % 10 != 0) {
                test.shape();
            }
            for (int step = seed % 6; step > 0; step--) {
                test.step();
            }
            for (int call = 0; call < CALLS; call++) {
                test.one();
            }
        }
        checks.finish("ModelTest");
    }
}
