/** What the tests by hand share: the object that is asked, what is due, and shapes known well. */
abstract class Bench {
    static final int NONE = -1;
    static final int UNKNOWN = -101;
    static final int OUTSIDE = -102;
    static final int STATE = -103;
    static final int ROOM = -104;
    static final int LEAST = Integer.MIN_VALUE;
    static final int MOST = Integer.MAX_VALUE;

    final Checks checks = new Checks();
    LazyHeaps x = new LazyHeaps();
    private String about = "";
    private int answers = 0;

    /** What follows tests this, and begins with a new object. */
    final void on(String what) {
        about = what;
        answers = 0;
        anew();
    }

    final void anew() {
        x = new LazyHeaps();
    }

    final void due(int want, int got) {
        answers++;
        checks.due(about + ", answer " + answers, got, want);
    }

    /** What is kept as row i. */
    final void dueRow(int i, int... choices) {
        for (int k = 0; k < choices.length; k++) {
            due(choices[k], x.choice(i, k));
        }
        due(NONE, x.choice(i, choices.length));
    }

    final void dueLook(int k, int... choices) {
        due(choices.length, x.end(k, 1));
        for (int i = 0; i < choices.length; i++) {
            due(choices[i], x.look(k, i));
        }
        due(NONE, x.look(k, choices.length));
    }

    final void dueEnd(int k, int outcome, int all, int kept, int done) {
        due(outcome, x.end(k, 0));
        due(all, x.end(k, 2));
        due(kept, x.end(k, 3));
        due(done, x.end(k, 4));
    }

    /** Of THE ROW when it has these choices. */
    final void dueRank(int want, int... choices) {
        puts(choices);
        due(want, x.rank());
        due(choices.length, x.about(5));
    }

    /** Of every call that asks for rows. */
    final void dueRoomForRows() {
        due(ROOM, x.many());
        due(ROOM, x.kept());
        due(ROOM, x.choice(0, 0));
        due(ROOM, x.object(0, 0, 0));
        due(ROOM, x.rank());
        due(ROOM, x.ends());
        due(ROOM, x.end(0, 0));
        due(ROOM, x.look(0, 0));
        due(ROOM, x.endOf(0));
    }

    final void puts(int... choices) {
        x.empty();
        for (int c : choices) {
            x.put(c);
        }
    }

    /** How many rows are kept by one rule alone. */
    final int keptBy(int sort, int kind, int f, int g) {
        x.clear();
        x.rule(sort, kind, f, g);
        return x.kept();
    }

    /** One kind with a REF to itself, one input: with bound 2 there are six rows. */
    final void chain(int bound) {
        anew();
        x.kind(NONE);
        x.field(0, 0, 0);
        x.input(0);
        x.bound(bound);
    }

    /** As chain, and a NUMBER 0 .. 1. */
    final void numberedChain(int bound) {
        chain(bound);
        x.field(0, 1, 1);
    }

    /** As chain, and one more REF: with bound 2 there are 50 rows. */
    final void twoRefs(int bound) {
        chain(bound);
        x.field(0, 0, 0);
    }

    /** Kind 0 with a REF to itself, kind 1 under it, one input of kind 0. */
    final void family(int bound) {
        anew();
        x.kind(NONE);
        x.field(0, 0, 0);
        x.kind(0);
        x.input(0);
        x.bound(bound);
    }

    /** One kind without fields, two inputs: with bound 2 there are five rows. */
    final void pair(int bound) {
        anew();
        x.kind(NONE);
        x.input(0);
        x.input(0);
        x.bound(bound);
    }

    /** 40 heaps from input 0 with each of the 100 from input 1: just as many rows as can be told. */
    final void fourThousand() {
        anew();
        x.kind(NONE);
        x.field(0, 1, 2);
        x.kind(0);
        x.field(1, 1, 2);
        x.field(1, 1, 3);
        x.kind(NONE);
        x.field(2, 1, 2);
        x.kind(2);
        x.field(3, 1, 3);
        x.field(3, 1, 3);
        x.field(3, 1, 1);
        x.input(0);
        x.input(2);
    }

    /** 68 * 58 rows, and 57 where both inputs tell one object: one row too many. */
    final void oneTooMany() {
        anew();
        x.kind(NONE);
        x.kind(0);
        x.field(1, 1, 2);
        x.kind(1);
        x.field(2, 1, 2);
        x.field(2, 1, 2);
        x.field(2, 1, 1);
        x.kind(0);
        x.field(3, 1, 2);
        x.field(3, 1, 2);
        x.input(0);
        x.input(1);
    }

    /** Rows of up to 2 + 5 * 4 choices: five objects of kind 2, each told by FIELD 2 of another. */
    final void longRows() {
        anew();
        for (int k = 0; k < 4; k++) {
            x.kind(NONE);
        }
        x.field(2, 0, 0);
        x.field(2, 0, 3);
        x.field(2, 0, 2);
        x.field(2, 0, 1);
        x.field(3, 0, 1);
        x.input(2);
        x.input(0);
        x.bound(5);
    }
}
