/** For each promise of the document answers that were found by hand from its words. */
public final class PromisesTest extends Bench {
    private void promise(int number, String name) {
        on("promise " + number + ", " + name);
    }

    private void newObject() {
        promise(1, "a new object");
        for (int what = 0; what <= 5; what++) {
            due(what == 2 ? 3 : 0, x.about(what));
        }
        due(OUTSIDE, x.about(10));
        due(1, x.many());
        due(1, x.kept());
        due(0, x.rank());
        due(1, x.ends());
        dueEnd(0, 0, 1, 1, 0);
        due(NONE, x.choice(0, 0));
        LazyHeaps other = new LazyHeaps();
        other.kind(NONE);
        due(0, x.about(0));
        due(0, new LazyHeaps().about(0));
    }

    private void kind() {
        promise(2, "kind");
        due(UNKNOWN, x.kind(0));
        due(UNKNOWN, x.kind(-2));
        due(UNKNOWN, x.kind(LEAST));
        due(UNKNOWN, x.kind(MOST));
        due(0, x.about(0));
        due(0, x.kind(NONE));
        due(UNKNOWN, x.kind(1));
        due(1, x.kind(0));
        due(2, x.kind(1));
        due(3, x.kind(NONE));
        due(ROOM, x.kind(NONE));
        due(ROOM, x.kind(3));
        due(UNKNOWN, x.kind(4));
        due(4, x.about(0));
        // UNDER goes through all SUPERS: null, and kinds 1 and 2
        due(0, x.input(1));
        due(3, x.many());
        dueRow(0, 0);
        dueRow(1, 11);
        dueRow(2, 12);
        // a new kind UNDER that of an input gives new rows
        anew();
        x.kind(NONE);
        x.input(0);
        due(2, x.many());
        x.kind(0);
        due(3, x.many());
    }

    private void field() {
        promise(3, "field");
        due(UNKNOWN, x.field(0, 0, 0));
        x.kind(NONE);
        due(0, x.field(0, 0, 0));
        due(1, x.field(0, 1, 1));
        due(UNKNOWN, x.field(0, 0, NONE));
        due(UNKNOWN, x.field(0, 0, 1));
        due(UNKNOWN, x.field(1, 5, 0));
        due(UNKNOWN, x.field(NONE, 1, 9));
        due(OUTSIDE, x.field(0, 2, 0));
        due(OUTSIDE, x.field(0, -1, 9));
        due(OUTSIDE, x.field(0, 1, 0));
        due(OUTSIDE, x.field(0, 1, 4));
        due(OUTSIDE, x.field(0, 1, LEAST));
        due(2, x.about(10));
        x.kind(0);
        due(2, x.about(11));
        due(STATE, x.field(0, 1, 1));
        due(OUTSIDE, x.field(0, 1, 4));
        due(OUTSIDE, x.field(0, 3, 4));
        due(UNKNOWN, x.field(0, 0, 2));
        due(2, x.field(1, 1, 3));
        due(3, x.field(1, 0, 0));
        due(ROOM, x.field(1, 0, 0));
        due(OUTSIDE, x.field(1, 1, 0));
        x.kind(1);
        due(STATE, x.field(1, 0, 0));
        due(ROOM, x.field(2, 1, 1));
        due(4, x.about(12));
        due(2, x.about(10));
        // a field comes into the rows, and a SUPER's fields come first
        anew();
        x.kind(NONE);
        x.field(0, 1, 1);
        x.kind(0);
        x.input(1);
        x.bound(1);
        due(3, x.many());
        x.field(1, 0, 0);
        due(5, x.many());
        dueRow(4, 11, 1, 1);
        x.step(1, 0, 2, 0, 0);
        due(2, x.ends());
        x.field(1, 1, 2);
        due(4, x.ends());
    }

    private void input() {
        promise(4, "input");
        due(UNKNOWN, x.input(0));
        x.kind(NONE);
        due(UNKNOWN, x.input(NONE));
        due(UNKNOWN, x.input(1));
        due(0, x.about(1));
        due(1, x.many());
        due(0, x.input(0));
        due(2, x.many());
        due(1, x.input(0));
        due(ROOM, x.input(0));
        due(UNKNOWN, x.input(1));
        due(2, x.about(1));
        due(5, x.many());
        dueRow(0, 0, 0);
        dueRow(1, 0, 10);
        dueRow(2, 10, 0);
        dueRow(3, 10, 1);
        dueRow(4, 10, 10);
    }

    private void bound() {
        promise(5, "bound");
        due(3, x.bound(5));
        due(5, x.bound(1));
        due(OUTSIDE, x.bound(0));
        due(OUTSIDE, x.bound(6));
        due(OUTSIDE, x.bound(LEAST));
        due(OUTSIDE, x.bound(MOST));
        due(1, x.about(2));
        due(1, x.bound(1));
        int[] rows = {3, 6, 10, 15, 21};
        for (int n = 1; n <= 5; n++) {
            chain(n);
            due(rows[n - 1], x.many());
        }
        due(5, x.bound(2));
        due(6, x.many());
    }

    private void rule() {
        promise(6, "rule");
        ruleRefusals();
        ruleSorts();
        ruleKinds();
        ruleWithTwoRefs();
    }

    private void ruleRefusals() {
        due(UNKNOWN, x.rule(0, 0, 0, 0));
        due(UNKNOWN, x.rule(9, 0, 0, 0));
        due(0, x.rule(6, LEAST, MOST, 7));
        numberedChain(2);
        due(UNKNOWN, x.rule(0, 1, 0, 0));
        due(UNKNOWN, x.rule(0, NONE, 0, 0));
        due(UNKNOWN, x.rule(0, 0, 2, 0));
        due(UNKNOWN, x.rule(0, 0, NONE, 0));
        due(UNKNOWN, x.rule(1, 0, 0, 2));
        due(UNKNOWN, x.rule(2, 0, 0, -2));
        due(UNKNOWN, x.rule(1, 0, NONE, NONE));
        due(UNKNOWN, x.rule(3, 0, 0, NONE));
        due(UNKNOWN, x.rule(4, 0, 0, NONE));
        due(UNKNOWN, x.rule(5, 0, 0, 2));
        due(UNKNOWN, x.rule(5, 0, 1, 2));
        due(UNKNOWN, x.rule(7, 0, 0, NONE));
        due(UNKNOWN, x.rule(-1, 0, 2, 0));
        due(UNKNOWN, x.rule(7, 1, 0, 0));
        due(OUTSIDE, x.rule(7, 0, 0, 0));
        due(OUTSIDE, x.rule(-1, 0, 1, 1));
        due(OUTSIDE, x.rule(0, 0, 1, 0));
        due(OUTSIDE, x.rule(1, 0, 1, NONE));
        due(OUTSIDE, x.rule(1, 0, 0, 1));
        due(OUTSIDE, x.rule(2, 0, 1, 0));
        due(OUTSIDE, x.rule(2, 0, 0, 1));
        due(OUTSIDE, x.rule(3, 0, 0, 1));
        due(OUTSIDE, x.rule(3, 0, 1, 0));
        due(OUTSIDE, x.rule(4, 0, 0, 0));
        due(OUTSIDE, x.rule(4, 0, 1, 1));
        due(OUTSIDE, x.rule(5, 0, 0, 0));
        due(OUTSIDE, x.rule(5, 0, 1, 1));
        due(0, x.about(3));
        due(17, x.kept());
        due(0, x.rule(0, 0, 0, LEAST));
        for (int n = 1; n < 6; n++) {
            due(n, x.rule(6, 0, 0, 0));
        }
        due(ROOM, x.rule(0, 0, 0, 0));
        due(ROOM, x.rule(6, 0, 0, 0));
        due(OUTSIDE, x.rule(5, 0, 1, 1));
        due(UNKNOWN, x.rule(5, 9, 1, 1));
        due(6, x.about(3));
    }

    private void ruleSorts() {
        // [0] [10 0] [10 1] [10 10 0] [10 10 1] [10 10 2]
        chain(2);
        due(4, keptBy(0, 0, 0, 0));
        dueRow(0, 0);
        dueRow(1, 10, 1);
        dueRow(2, 10, 10, 1);
        dueRow(3, 10, 10, 2);
        due(3, keptBy(1, 0, 0, NONE));
        dueRow(2, 10, 10, 0);
        due(3, keptBy(1, 0, 0, 0));
        due(5, keptBy(2, 0, 0, NONE));
        dueRow(4, 10, 10, 1);
        due(5, keptBy(2, 0, 0, 0));
        due(4, keptBy(3, 0, 0, 0));
        dueRow(3, 10, 10, 1);
        due(6, keptBy(6, 0, 0, 0));
        numberedChain(1);
        due(5, keptBy(4, 0, 0, 1));
        due(3, keptBy(5, 0, 0, 1));
        dueRow(1, 10, 0, 0);
        dueRow(2, 10, 1, 1);
        numberedChain(2);
        due(13, keptBy(4, 0, 0, 1));
        pair(2);
        due(4, keptBy(6, 0, 0, 0));
        dueRow(0, 0, 0);
        dueRow(3, 10, 10);
    }

    /** Only objects of a kind UNDER that of the rule are bound by it. */
    private void ruleKinds() {
        family(1);
        due(5, x.many());
        due(4, keptBy(0, 1, 0, 0));
        dueRow(3, 11, 1);
        due(3, keptBy(0, 0, 0, 0));
        due(4, keptBy(1, 1, 0, NONE));
        dueRow(3, 11, 0);
        due(3, keptBy(1, 0, 0, NONE));
        family(2);
        due(17, x.many());
        due(11, keptBy(3, 1, 0, 0));
        // only circles of objects of kind 1 alone: [11 1], [10 11 2], [11 11 1], [11 11 2]
        due(17 - 4, keptBy(1, 1, 0, NONE));
        // only [11 11 2]: what an object of kind 0 tells may be told once more
        due(17 - 1, keptBy(2, 1, 0, NONE));
        // a REF to an object that is not UNDER the kind of the rule has no NUMBER to hold to
        anew();
        x.kind(NONE);
        x.kind(0);
        x.field(1, 0, 0);
        x.field(1, 1, 1);
        x.input(1);
        x.bound(2);
        due(1 + 2 + 2 + 2 + 2 * 3 * 2, x.many());
        due(1 + 2 + 2 + 2 + 3 + 2 + 3, keptBy(4, 1, 0, 1));
        due(1 + 1 + 1 + 1 + 3, keptBy(5, 1, 0, 1));
    }

    private void ruleWithTwoRefs() {
        anew();
        x.kind(NONE);
        x.field(0, 0, 0);
        x.field(0, 0, 0);
        x.input(0);
        x.bound(1);
        // both REFS are null or tell the one object
        due(5, x.many());
        due(2, keptBy(1, 0, 0, 1));
        due(3, keptBy(1, 0, 1, NONE));
        due(4, keptBy(2, 0, 0, 1));
        due(5, keptBy(2, 0, 0, NONE));
        due(4, keptBy(3, 0, 0, 1));
        due(3, keptBy(0, 0, 1, 0));
        // rules hold together
        due(1, x.rule(0, 0, 0, 0));
        due(2, x.kept());
        dueRow(1, 10, 1, 1);
        due(2, x.rule(2, 0, 0, 1));
        due(1, x.kept());
    }

    private void clear() {
        promise(7, "clear");
        due(0, x.clear());
        chain(2);
        x.rule(0, 0, 0, 0);
        x.rule(1, 0, 0, NONE);
        due(1, x.kept());
        due(2, x.clear());
        due(0, x.about(3));
        due(6, x.kept());
        due(0, x.clear());
        due(0, x.rule(1, 0, 0, NONE));
        due(3, x.kept());
        // what was kept before the shape changed does not count
        x.bound(1);
        due(1, x.clear());
        due(3, x.kept());
    }

    private void about() {
        promise(8, "about");
        numberedChain(4);
        x.kind(0);
        x.rule(6, 0, 0, 0);
        x.rule(6, 0, 0, 0);
        x.step(2, 0, 0, 0, 0);
        x.step(2, 0, 0, 0, 0);
        x.step(2, 0, 0, 0, 0);
        puts(7, 7, 7, 7, 7);
        due(2, x.about(0));
        due(1, x.about(1));
        due(4, x.about(2));
        due(2, x.about(3));
        due(3, x.about(4));
        due(5, x.about(5));
        due(2, x.about(10));
        due(2, x.about(11));
        for (int what : new int[] {-1, 6, 9, 12, 13, 14, LEAST, LEAST + 9, MOST}) {
            due(OUTSIDE, x.about(what));
        }
    }

    private void many() {
        promise(9, "many");
        chain(3);
        due(10, x.many());
        x.rule(0, 0, 0, 0);
        due(10, x.many());
        fourThousand();
        due(4000, x.many());
        oneTooMany();
        due(ROOM, x.many());
        due(3, x.bound(1));
        due(1 + 57 + 67 + 57, x.many());
        due(1, x.bound(2));
        due(ROOM, x.many());
        due(4, x.about(0));
        // objects without fields are met and count for the bound: two new ones are one too many
        anew();
        x.kind(NONE);
        x.kind(NONE);
        x.field(1, 0, 0);
        x.field(1, 0, 0);
        x.input(1);
        x.bound(2);
        due(1 + 2 + 2, x.many());
        dueRow(3, 11, 10, 0);
        dueRow(4, 11, 10, 2);
        x.bound(3);
        due(1 + 2 + 3, x.many());
    }

    private void kept() {
        promise(10, "kept");
        chain(2);
        due(6, x.kept());
        x.rule(1, 0, 0, NONE);
        due(3, x.kept());
        x.bound(5);
        due(6, x.kept());
        x.kind(0);
        x.bound(3);
        due(1 + 2 + 4 + 8, x.kept());
        fourThousand();
        due(4000, x.kept());
        x.rule(6, 0, 0, 0);
        due(4000, x.kept());
        oneTooMany();
        x.rule(6, 0, 0, 0);
        due(ROOM, x.kept());
    }

    private void choice() {
        promise(11, "choice");
        numberedChain(2);
        due(17, x.kept());
        dueRow(0, 0);
        dueRow(1, 10, 0, 0);
        dueRow(2, 10, 0, 1);
        dueRow(3, 10, 1, 0);
        dueRow(5, 10, 10, 0, 0, 0);
        dueRow(6, 10, 10, 0, 0, 1);
        dueRow(7, 10, 10, 0, 1, 0);
        dueRow(9, 10, 10, 0, 2, 0);
        dueRow(16, 10, 10, 1, 2, 1);
        due(NONE, x.choice(16, MOST));
        due(UNKNOWN, x.choice(17, 0));
        due(UNKNOWN, x.choice(-1, 0));
        due(UNKNOWN, x.choice(MOST, 0));
        due(UNKNOWN, x.choice(0, -1));
        due(UNKNOWN, x.choice(0, LEAST));
        x.rule(0, 0, 0, 0);
        // numbers go by the kept rows
        dueRow(1, 10, 1, 0);
        due(UNKNOWN, x.choice(16, 0));
        fourThousand();
        dueRow(0, 0, 0);
        dueRow(1, 0, 12, 0);
        dueRow(3999, 11, 13, 2, 2, 3, 2, 3, 3, 1);
        due(UNKNOWN, x.choice(4000, 0));
        oneTooMany();
        due(ROOM, x.choice(0, 0));
        due(ROOM, x.choice(-1, -1));
        lines();
    }

    private void lines() {
        anew();
        x.kind(NONE);
        x.kind(NONE);
        x.kind(NONE);
        x.kind(NONE);
        x.field(0, 0, 1);
        x.field(1, 0, 2);
        x.field(2, 0, 3);
        x.field(3, 1, 1);
        x.input(0);
        x.input(3);
        x.bound(5);
        // lines end by null, or in kind 3 with a NUMBER, which input 1 may tell, or tell another
        due((1 + 1 + 1 + 1) * 3 + 2 + 2 + 2 * 2, x.many());
        dueRow(19, 10, 13, 11, 1, 12, 13, 1);
    }

    private void object() {
        promise(12, "object");
        numberedChain(2);
        // row 15: object 0 with number 1 to object 1, that with number 0 to itself
        dueRow(15, 10, 10, 1, 2, 0);
        due(0, x.object(15, 0, 0));
        due(1, x.object(15, 0, 1));
        due(1, x.object(15, 0, 2));
        due(0, x.object(15, 1, 0));
        due(1, x.object(15, 1, 1));
        due(0, x.object(15, 1, 2));
        due(NONE, x.object(1, 0, 1));
        due(0, x.object(3, 0, 1));
        due(OUTSIDE, x.object(15, 0, 3));
        due(OUTSIDE, x.object(15, 0, -1));
        due(OUTSIDE, x.object(15, 0, MOST));
        due(UNKNOWN, x.object(15, 2, 0));
        due(UNKNOWN, x.object(15, -1, 9));
        due(UNKNOWN, x.object(0, 0, 0));
        due(UNKNOWN, x.object(17, 0, 0));
        due(UNKNOWN, x.object(-1, 0, 9));
        // what an object has goes by its own kind
        anew();
        x.kind(NONE);
        x.kind(0);
        x.field(1, 1, 3);
        x.input(0);
        x.input(0);
        dueRow(x.kept() - 1, 11, 11, 3, 3);
        due(1, x.object(x.kept() - 1, 1, 0));
        due(3, x.object(x.kept() - 1, 1, 1));
        dueRow(1, 0, 10);
        due(0, x.object(1, 0, 0));
        due(OUTSIDE, x.object(1, 0, 1));
        oneTooMany();
        due(ROOM, x.object(0, 0, 0));
        due(ROOM, x.object(-1, -1, -1));
    }

    private void put() {
        promise(13, "put");
        due(1, x.put(LEAST));
        due(2, x.put(MOST));
        for (int n = 3; n <= 40; n++) {
            due(n, x.put(n));
        }
        due(ROOM, x.put(0));
        due(40, x.about(5));
        due(40, x.empty());
        due(1, x.put(0));
        // the row is there where there are too many rows
        oneTooMany();
        due(1, x.put(0));
    }

    private void empty() {
        promise(14, "empty");
        due(0, x.empty());
        x.put(1);
        x.put(2);
        due(2, x.empty());
        due(0, x.about(5));
        due(0, x.empty());
        due(0, x.rank());
    }

    private void rank() {
        promise(15, "rank");
        due(0, x.rank());
        x.put(0);
        due(-10, x.rank());
        numberedChain(2);
        due(-10, x.rank());
        dueRank(0, 0);
        dueRank(1, 10, 0, 0);
        dueRank(16, 10, 10, 1, 2, 1);
        dueRank(-11, 10);
        dueRank(-12, 10, 1);
        dueRank(-13, 10, 10, 0);
        dueRank(-11, 0, 0);
        dueRank(-13, 10, 0, 0, 0);
        dueRank(-10, 1);
        dueRank(-10, 11);
        dueRank(-10, -1, 99);
        dueRank(-10, LEAST);
        dueRank(-10, MOST);
        dueRank(-11, 10, 2, 0);
        dueRank(-12, 10, 0, 2);
        dueRank(-12, 10, 0, -1);
        dueRank(-13, 10, 10, 0, 10, 0);
        dueRank(-13, 10, 10, 0, 3, 0);
        x.rule(0, 0, 0, 0);
        dueRank(NONE, 10, 0, 0);
        dueRank(1, 10, 1, 0);
        dueRank(-12, 10, 0, 2);
        x.bound(1);
        dueRank(-11, 10, 10, 0, 1, 0);
        // objects and new ones must be of a kind UNDER that of the REF
        family(2);
        dueRank(-10, 12);
        dueRank(3, 10, 10, 0);
        anew();
        x.kind(NONE);
        x.kind(0);
        x.input(0);
        x.input(1);
        dueRank(-11, 10, 1);
        dueRank(-11, 10, 10);
        dueRank(5, 11, 1);
        dueRank(6, 11, 11);
        fourThousand();
        dueRank(3999, 11, 13, 2, 2, 3, 2, 3, 3, 1);
        for (int c = 0; c < 40; c++) {
            x.put(0);
        }
        due(-19, x.rank());
        oneTooMany();
        due(ROOM, x.rank());
        x.put(99);
        due(ROOM, x.rank());
    }

    private void step() {
        promise(16, "step");
        due(OUTSIDE, x.step(3, 0, 0, 0, 0));
        due(OUTSIDE, x.step(-1, 0, 0, 0, 0));
        for (int op = 0; op <= 2; op++) {
            due(OUTSIDE, x.step(op, 4, 0, 0, 0));
            due(OUTSIDE, x.step(op, -1, 0, 0, 0));
            due(OUTSIDE, x.step(op, 0, 4, 0, 0));
            due(OUTSIDE, x.step(op, 0, -1, 0, 0));
        }
        due(OUTSIDE, x.step(0, 0, 0, 4, 0));
        due(OUTSIDE, x.step(0, 0, 0, -1, 0));
        due(OUTSIDE, x.step(1, 0, 0, 4, 0));
        due(OUTSIDE, x.step(1, 0, 0, -1, 0));
        due(OUTSIDE, x.step(1, 0, 0, 0, 17));
        due(OUTSIDE, x.step(1, 0, 0, 0, -1));
        due(OUTSIDE, x.step(2, 0, 0, 0, 17));
        due(OUTSIDE, x.step(2, 0, 0, 0, -1));
        due(0, x.about(4));
        due(0, x.step(0, 3, 3, 3, 17));
        due(1, x.step(0, 0, 0, 0, LEAST));
        due(2, x.step(1, 3, 3, 3, 16));
        due(3, x.step(2, 3, 3, 4, 16));
        due(4, x.step(2, 0, 0, LEAST, 0));
        for (int n = 5; n < 16; n++) {
            due(n, x.step(1, 0, 0, 0, 0));
        }
        due(ROOM, x.step(1, 0, 0, 0, 0));
        due(OUTSIDE, x.step(1, 0, 4, 0, 0));
        due(16, x.about(4));
    }

    private void erase() {
        promise(17, "erase");
        due(0, x.erase());
        chain(2);
        x.step(0, 0, 0, 0, 0);
        x.step(0, 0, 0, 0, 0);
        due(6, x.ends());
        due(2, x.erase());
        due(0, x.about(4));
        due(1, x.ends());
        dueLook(0);
        dueEnd(0, 0, 6, 6, 0);
        due(0, x.step(0, 0, 0, 0, 0));
        due(4, x.ends());
    }

    private void ends() {
        promise(18, "ends");
        chain(2);
        due(1, x.ends());
        // null, then what the next tells: null, itself, a new object
        x.step(0, 0, 0, 0, 0);
        due(4, x.ends());
        // ends are those of all rows, not of kept ones alone
        x.rule(0, 0, 0, 0);
        due(4, x.ends());
        x.step(0, 0, 0, 0, 0);
        // now the second REF: behind a new object null, object 0, object 1
        due(6, x.ends());
        x.bound(1);
        due(3, x.ends());
        x.bound(3);
        due(7, x.ends());
        // no input: nothing can be looked at
        anew();
        x.kind(NONE);
        x.step(0, 0, 0, 0, 0);
        due(1, x.ends());
        dueLook(0);
        dueEnd(0, 1, 1, 1, 1);
        oneTooMany();
        due(ROOM, x.ends());
        fourThousand();
        due(1, x.ends());
        x.step(2, 0, 0, 0, 0);
        due(3, x.ends());
        x.step(2, 1, 0, 0, 0);
        due(9, x.ends());
    }

    private void end() {
        promise(19, "end");
        numberedChain(2);
        x.rule(5, 0, 0, 1);
        x.step(1, 0, 1, 1, 1);
        x.step(2, 0, 0, 0, 0);
        x.step(0, 0, 0, 2, 0);
        x.step(0, 2, 1, 3, 0);
        // null: thrown at once; number 0: all steps; number 1: one is left out
        due(7, x.ends());
        dueEnd(0, 1, 1, 1, 1);
        dueLook(0, 0);
        // [10, 0, 0]: READ of null, thrown in the fourth step; kept is [10 0 0]
        dueLook(1, 10, 0, 0);
        dueEnd(1, 1, 1, 1, 4);
        // [10, 0, 1]: READ of the NUMBER of itself
        dueLook(2, 10, 0, 1);
        dueEnd(2, 2, 1, 0, 4);
        dueLook(3, 10, 0, 10);
        dueEnd(3, 2, 6, 0, 4);
        dueLook(4, 10, 1, 0);
        dueEnd(4, 1, 1, 0, 3);
        dueLook(5, 10, 1, 1);
        dueEnd(5, 2, 1, 1, 3);
        dueLook(6, 10, 1, 10);
        // kept: [10 10 1 0 0], [10 10 1 1 1], [10 10 1 2 1]
        dueEnd(6, 2, 6, 3, 3);
        due(UNKNOWN, x.end(7, 0));
        due(UNKNOWN, x.end(-1, 9));
        due(UNKNOWN, x.end(MOST, 0));
        due(OUTSIDE, x.end(0, 5));
        due(OUTSIDE, x.end(0, -1));
        // rules that come or go change how many are kept
        x.clear();
        due(6, x.end(6, 3));
        x.rule(1, 0, 0, NONE);
        due(2, x.end(6, 3));
        endOfWholePrograms();
        oneTooMany();
        due(ROOM, x.end(0, 0));
        due(ROOM, x.end(-1, -1));
    }

    private void endOfWholePrograms() {
        // steps are left out as far as there are
        pair(2);
        x.step(2, 0, 1, 0, 16);
        x.step(0, 0, 0, 0, 0);
        due(5, x.ends());
        dueEnd(0, 0, 1, 1, 1);
        dueEnd(1, 1, 1, 1, 2);
        dueEnd(2, 2, 1, 1, 2);
        dueEnd(3, 0, 1, 1, 1);
        dueLook(3, 10, 1);
        dueEnd(4, 2, 1, 1, 2);
        // variables 2 and 3 are null and nothing is looked at there
        x.erase();
        x.step(2, 2, 3, 0, 1);
        x.step(0, 3, 0, 0, 0);
        due(1, x.ends());
        dueEnd(0, 0, 5, 5, 1);
        // one input: variable 1 is null, and has no slot
        chain(2);
        x.step(1, 1, 0, 0, 0);
        due(1, x.ends());
        dueEnd(0, 1, 6, 6, 1);
        // a TEST of a REF is wrong, and the REF is not looked at
        x.erase();
        x.step(1, 0, 0, 0, 0);
        due(2, x.ends());
        dueLook(1, 10);
        dueEnd(1, 2, 5, 5, 1);
        // so is a field that there is not
        x.erase();
        x.step(0, 0, 1, 0, 0);
        due(2, x.ends());
        dueLook(1, 10);
        dueEnd(1, 2, 5, 5, 1);
    }

    private void look() {
        promise(20, "look");
        // input 1 is asked first, and so its object is the first that is met
        pair(2);
        x.step(2, 1, 0, 0, 0);
        due(5, x.ends());
        dueLook(0, 0, 0);
        dueLook(1, 0, 10);
        dueLook(2, 10, 0);
        dueLook(3, 10, 1);
        dueLook(4, 10, 10);
        due(UNKNOWN, x.look(5, 0));
        due(UNKNOWN, x.look(-1, 0));
        due(UNKNOWN, x.look(0, -1));
        due(UNKNOWN, x.look(0, LEAST));
        due(NONE, x.look(0, MOST));
        // a slot is told once
        x.step(2, 0, 1, 0, 0);
        due(5, x.ends());
        dueLook(4, 10, 10);
        lookBehindRead();
        lookAtKinds();
        oneTooMany();
        due(ROOM, x.look(0, 0));
        due(ROOM, x.look(-1, -1));
    }

    private void lookBehindRead() {
        // READ changes variable 1 before it is asked: input 1 is not looked at
        chain(1);
        x.input(0);
        x.step(0, 0, 0, 1, 0);
        x.step(2, 1, 0, 0, 0);
        due(3, x.ends());
        dueLook(0, 0);
        dueLook(1, 10, 0);
        dueLook(2, 10, 1);
        // so it is where what is read is what the input tells
        due(2, x.end(2, 2));
        // a variable that was read into itself holds its input no more
        x.erase();
        x.step(0, 1, 0, 1, 0);
        x.step(2, 1, 0, 0, 0);
        due(5, x.ends());
        dueLook(0, 0);
        dueLook(1, 10, 0, 0);
        dueLook(2, 10, 0, 1);
        dueLook(3, 10, 1, 0);
        dueLook(4, 10, 1, 1);
        // asked first, changed then
        x.erase();
        x.step(2, 1, 1, 0, 0);
        x.step(0, 0, 0, 1, 0);
        x.step(2, 1, 0, 0, 0);
        dueLook(0, 0, 0);
        dueLook(1, 0, 10, 0);
        dueLook(2, 0, 10, 1);
        dueLook(3, 10, 0);
        dueLook(4, 10, 1, 0);
        dueLook(5, 10, 1, 1);
        due(6, x.ends());
    }

    private void lookAtKinds() {
        // objects are numbered as the look meets them: input 1, its REF, input 0
        family(3);
        x.input(1);
        x.step(0, 1, 0, 2, 0);
        x.step(2, 2, 0, 0, 0);
        int last = x.ends() - 1;
        dueLook(last, 11, 11, 11);
        dueLook(last - 1, 11, 11, 10);
        dueLook(last - 2, 11, 11, 2);
        dueLook(last - 3, 11, 11, 1);
        dueLook(last - 4, 11, 11, 0);
        dueLook(last - 5, 11, 10, 11);
        dueLook(0, 0);
        due(1, x.end(0, 0));
        // a second READ of one field adds nothing
        x.step(0, 1, 0, 3, 0);
        due(last + 1, x.ends());
        dueLook(last, 11, 11, 11);
    }

    private void endOf() {
        promise(21, "endOf");
        due(0, x.endOf(0));
        due(UNKNOWN, x.endOf(1));
        pair(2);
        x.step(2, 1, 0, 0, 0);
        due(0, x.endOf(0));
        due(2, x.endOf(1));
        due(1, x.endOf(2));
        due(3, x.endOf(3));
        due(4, x.endOf(4));
        due(UNKNOWN, x.endOf(5));
        due(UNKNOWN, x.endOf(-1));
        due(UNKNOWN, x.endOf(MOST));
        // rows are numbered by what is kept, ends are not
        x.rule(6, 0, 0, 0);
        due(4, x.endOf(3));
        due(UNKNOWN, x.endOf(4));
        x.erase();
        due(0, x.endOf(3));
        oneTooMany();
        due(ROOM, x.endOf(0));
        due(ROOM, x.endOf(-1));
    }

    public static void main(String[] args) {
        PromisesTest test = new PromisesTest();
        test.newObject();
        test.kind();
        test.field();
        test.input();
        test.bound();
        test.rule();
        test.clear();
        test.about();
        test.many();
        test.kept();
        test.choice();
        test.object();
        test.put();
        test.empty();
        test.rank();
        test.step();
        test.erase();
        test.ends();
        test.end();
        test.look();
        test.endOf();
        test.checks.finish("PromisesTest");
    }
}
