/** The boundary cases of the promises 1 to 21: a test for each sentence. */
public final class PromiseBoundariesTest extends Bench {
    /** Numbers that name nothing, of kinds, rows, objects and ends alike. */
    private static final int[] NAMELESS = {
        -2, LEAST, LEAST + 1, LEAST + 10, UNKNOWN, 4000, 65536, MOST - 10, MOST - 1, MOST};

    private void aNewObjectHasNothing() {
        on("promise 1: no kinds");
        due(0, x.about(0));
        due(OUTSIDE, x.about(10));
        due(UNKNOWN, x.kind(0));
        due(UNKNOWN, x.field(0, 0, 0));
        due(UNKNOWN, x.input(0));
        due(UNKNOWN, x.rule(0, 0, 0, 0));
        on("promise 1: no INPUTS");
        due(0, x.about(1));
        due(1, x.many());
        due(NONE, x.choice(0, 0));
        due(UNKNOWN, x.choice(1, 0));
        due(UNKNOWN, x.object(0, 0, 0));
        on("promise 1: no RULES");
        due(0, x.about(3));
        due(0, x.clear());
        due(1, x.kept());
        on("promise 1: no STEPS");
        due(0, x.about(4));
        due(0, x.erase());
        due(1, x.ends());
        dueEnd(0, 0, 1, 1, 0);
        dueLook(0);
        due(UNKNOWN, x.end(1, 0));
        due(UNKNOWN, x.look(1, 0));
        due(0, x.endOf(0));
        due(UNKNOWN, x.endOf(1));
        on("promise 1: an empty ROW");
        due(0, x.about(5));
        due(0, x.empty());
        due(0, x.rank());
        on("promise 1: BOUND is 3 at first");
        due(3, x.bound(3));
    }

    private void objectsAreApart() {
        on("promise 1: each object has its own");
        full();
        LazyHeaps old = x;
        anew();
        for (int what = 0; what <= 5; what++) {
            due(what == 2 ? 3 : 0, x.about(what));
        }
        chain(2);
        due(6, x.many());
        due(4, old.about(0));
        due(40, old.about(5));
    }

    private void full() {
        for (int k = 0; k < 4; k++) {
            x.kind(NONE);
            x.rule(6, 0, 0, 0);
        }
        x.input(0);
        x.input(1);
        for (int n = 0; n < 40; n++) {
            x.put(n);
            x.step(2, 2, 3, 0, 0);
        }
    }

    private void kindUnknown() {
        on("promise 2: with a SUPER or NONE; UNKNOWN");
        due(0, x.kind(NONE));
        for (int above : NAMELESS) {
            due(UNKNOWN, x.kind(above));
        }
        due(UNKNOWN, x.kind(1));
        due(1, x.about(0));
        due(1, x.kind(0));
    }

    private void kindRoom() {
        on("promise 2: ROOM");
        for (int k = 0; k < 4; k++) {
            due(k, x.kind(k - 1));
        }
        for (int above = NONE; above < 4; above++) {
            due(ROOM, x.kind(above));
        }
        due(UNKNOWN, x.kind(4));
    }

    private void fieldUnknown() {
        on("promise 3: UNKNOWN (kind; of, of a REF)");
        x.kind(NONE);
        for (int odd : NAMELESS) {
            due(UNKNOWN, x.field(odd, 0, 0));
            due(UNKNOWN, x.field(odd, 1, 1));
            due(UNKNOWN, x.field(odd, 2, 1));
            due(UNKNOWN, x.field(0, 0, odd));
        }
        due(UNKNOWN, x.field(1, 0, 0));
        due(UNKNOWN, x.field(NONE, 0, 0));
        due(UNKNOWN, x.field(0, 0, 1));
        due(UNKNOWN, x.field(0, 0, NONE));
        due(0, x.about(10));
        due(0, x.field(0, 0, 0));
    }

    private void fieldOutside() {
        on("promise 3: OUTSIDE (sort; of)");
        x.kind(NONE);
        for (int odd : NAMELESS) {
            due(OUTSIDE, x.field(0, odd, 1));
            due(OUTSIDE, x.field(0, 1, odd));
        }
        due(OUTSIDE, x.field(0, -1, 0));
        due(OUTSIDE, x.field(0, 2, 0));
        // of a sort that there is not, of is no kind that could be UNKNOWN
        due(OUTSIDE, x.field(0, 2, 99));
        due(OUTSIDE, x.field(0, 1, 0));
        due(OUTSIDE, x.field(0, 1, 4));
        due(0, x.field(0, 1, 1));
        due(1, x.field(0, 1, 3));
    }

    private void fieldState() {
        on("promise 3: STATE (the kind is a SUPER)");
        x.kind(NONE);
        due(0, x.field(0, 1, 1));
        x.kind(0);
        due(STATE, x.field(0, 1, 1));
        due(STATE, x.field(0, 0, 0));
        due(1, x.field(1, 0, 0));
        x.kind(1);
        due(STATE, x.field(1, 0, 0));
        due(STATE, x.field(0, 0, 0));
        due(2, x.field(2, 0, 2));
        // a kind that only REFS and INPUTS name is no SUPER
        x.kind(NONE);
        x.input(3);
        x.field(2, 0, 3);
        due(0, x.field(3, 0, 2));
    }

    private void inputRefusals() {
        on("promise 4: UNKNOWN, ROOM");
        x.kind(NONE);
        for (int odd : NAMELESS) {
            due(UNKNOWN, x.input(odd));
        }
        due(UNKNOWN, x.input(NONE));
        due(UNKNOWN, x.input(1));
        due(0, x.input(0));
        due(1, x.input(0));
        due(ROOM, x.input(0));
        due(UNKNOWN, x.input(1));
        due(2, x.about(1));
    }

    private void boundTellsWhatItWas() {
        on("promise 5: BOUND: what it was");
        due(3, x.bound(3));
        for (int n = 1; n <= 5; n++) {
            due(n == 1 ? 3 : n - 1, x.bound(n));
            due(n, x.bound(n));
        }
        on("promise 5: OUTSIDE");
        for (int odd : NAMELESS) {
            due(OUTSIDE, x.bound(odd));
        }
        due(OUTSIDE, x.bound(0));
        due(OUTSIDE, x.bound(-1));
        due(OUTSIDE, x.bound(6));
        due(3, x.about(2));
    }

    private void ruleUnknown() {
        on("promise 6: UNKNOWN (kind, f, g, but of SORT 6)");
        numberedChain(1);
        for (int sort = -1; sort <= 7; sort++) {
            if (sort != 6) {
                for (int odd : NAMELESS) {
                    due(UNKNOWN, x.rule(sort, odd, 0, 0));
                    due(UNKNOWN, x.rule(sort, 0, odd, 0));
                }
                due(UNKNOWN, x.rule(sort, NONE, 0, 0));
                due(UNKNOWN, x.rule(sort, 1, 0, 0));
                due(UNKNOWN, x.rule(sort, 0, NONE, 0));
                due(UNKNOWN, x.rule(sort, 0, 2, 0));
            }
        }
        due(0, x.about(3));
        on("promise 6: UNKNOWN (g), but of SORTS 0 and 6");
        numberedChain(1);
        for (int sort = -1; sort <= 7; sort++) {
            if (sort != 0 && sort != 6) {
                for (int odd : NAMELESS) {
                    due(UNKNOWN, x.rule(sort, 0, 0, odd));
                }
                due(UNKNOWN, x.rule(sort, 0, 0, 2));
            }
        }
        due(0, x.about(3));
    }

    private void ruleWithoutG() {
        on("promise 6: g NONE of 1 and 2");
        numberedChain(1);
        due(0, x.rule(1, 0, 0, NONE));
        due(1, x.rule(2, 0, 0, NONE));
        for (int sort : new int[] {-1, 3, 4, 5, 7, LEAST, MOST}) {
            due(UNKNOWN, x.rule(sort, 0, 0, NONE));
        }
        due(2, x.about(3));
        on("promise 6: of 0 g is not looked at");
        for (int odd : new int[] {LEAST, -2, NONE, 1, 2, MOST}) {
            numberedChain(1);
            due(0, x.rule(0, 0, 0, odd));
            due(3, x.kept());
        }
        on("promise 6: of 6 kind, f, g are not looked at");
        due(0, x.rule(6, NONE, NONE, NONE));
        due(1, x.rule(6, 0, 0, 0));
        due(2, x.rule(6, LEAST, MOST, LEAST));
    }

    private void ruleOutside() {
        on("promise 6: OUTSIDE (sort)");
        numberedChain(1);
        for (int sort : new int[] {LEAST, -7, -1, 7, 8, MOST}) {
            for (int f = 0; f < 2; f++) {
                due(OUTSIDE, x.rule(sort, 0, f, 0));
                due(OUTSIDE, x.rule(sort, 0, f, 1));
            }
        }
        on("promise 6: OUTSIDE (f, g are not of the sorts that it wants)");
        numberedChain(1);
        for (int sort = 0; sort <= 5; sort++) {
            // f must be a REF
            due(OUTSIDE, x.rule(sort, 0, 1, 0));
            due(OUTSIDE, x.rule(sort, 0, 1, 1));
        }
        due(OUTSIDE, x.rule(1, 0, 1, NONE));
        due(OUTSIDE, x.rule(2, 0, 1, NONE));
        for (int sort = 1; sort <= 5; sort++) {
            // g must be a REF up to 3, and a NUMBER from there
            due(OUTSIDE, x.rule(sort, 0, 0, sort <= 3 ? 1 : 0));
        }
        due(0, x.about(3));
        for (int sort = 1; sort <= 5; sort++) {
            due(sort - 1, x.rule(sort, 0, 0, sort <= 3 ? 0 : 1));
        }
    }

    private void ruleByTheFieldsOfItsKind() {
        on("promise 6: f and g are FIELDS of that kind, not of one that is UNDER it");
        family(1);
        x.field(1, 1, 1);
        due(UNKNOWN, x.rule(5, 0, 0, 1));
        due(0, x.rule(5, 1, 0, 1));
        due(UNKNOWN, x.rule(0, 1, 2, 0));
    }

    private void clearAllAndNone() {
        on("promise 7: all RULES go: how many there were");
        due(0, x.clear());
        for (int n = 1; n <= 6; n++) {
            for (int r = 0; r < n; r++) {
                due(r, x.rule(6, 0, 0, 0));
            }
            due(n, x.clear());
            due(0, x.about(3));
        }
        due(0, x.clear());
        on("promise 7: what they cut comes back");
        pair(2);
        x.rule(6, 0, 0, 0);
        due(4, x.kept());
        due(1, x.clear());
        due(5, x.kept());
        dueRow(3, 10, 1);
    }

    private void aboutOutside() {
        on("promise 8: what = 0 .. 5, 10 + k");
        for (int k = 0; k < 4; k++) {
            x.kind(NONE);
            for (int f = 0; f <= k; f++) {
                x.field(k, 1, 1);
            }
        }
        for (int k = 0; k < 4; k++) {
            due(k + 1, x.about(10 + k));
        }
        on("promise 8: OUTSIDE");
        x.kind(NONE);
        for (int odd : NAMELESS) {
            due(OUTSIDE, x.about(odd));
        }
        for (int what : new int[] {-1, 6, 7, 8, 9, 11, 12, 13, 14, 15}) {
            due(OUTSIDE, x.about(what));
        }
        due(0, x.about(10));
    }

    private void manyAndKept() {
        on("promise 9: MANY: from the one empty row on");
        due(1, x.many());
        fourThousand();
        due(4000, x.many());
        on("promise 9: ROOM");
        oneTooMany();
        due(ROOM, x.many());
        due(ROOM, x.many());
        on("promise 10: how many are KEPT: all, some, one");
        chain(2);
        due(6, x.kept());
        x.rule(1, 0, 0, NONE);
        due(3, x.kept());
        x.rule(0, 0, 0, 0);
        due(1, x.kept());
        due(6, x.many());
        on("promise 10: ROOM");
        oneTooMany();
        x.rule(6, 0, 0, 0);
        due(ROOM, x.kept());
    }

    private void choiceBehindTheEnd() {
        on("promise 11: NONE behind its end");
        chain(2);
        for (int k : new int[] {1, 2, 21, 22, 23, 40, MOST}) {
            due(NONE, x.choice(0, k));
        }
        for (int k : new int[] {3, 4, 21, 22, 23, 40, MOST}) {
            due(NONE, x.choice(5, k));
        }
        due(2, x.choice(5, 2));
        on("promise 11: UNKNOWN (i; k is below 0)");
        chain(2);
        due(0, x.choice(0, 0));
        due(10, x.choice(5, 0));
        due(UNKNOWN, x.choice(6, 0));
        due(UNKNOWN, x.choice(-1, 0));
        due(UNKNOWN, x.choice(0, -1));
        due(UNKNOWN, x.choice(5, LEAST));
        for (int odd : NAMELESS) {
            due(UNKNOWN, x.choice(odd, 0));
            due(UNKNOWN, x.choice(odd, MOST));
        }
        // by what is KEPT, not by ALL ROWS
        x.rule(1, 0, 0, NONE);
        due(0, x.choice(2, 2));
        due(UNKNOWN, x.choice(3, 0));
    }

    private void objectUnknown() {
        on("promise 12: UNKNOWN (i, o)");
        numberedChain(2);
        due(UNKNOWN, x.object(0, 0, 0));
        due(0, x.object(1, 0, 0));
        due(UNKNOWN, x.object(1, 1, 0));
        due(0, x.object(16, 1, 0));
        due(UNKNOWN, x.object(16, 2, 0));
        due(UNKNOWN, x.object(16, -1, 0));
        due(UNKNOWN, x.object(17, 0, 0));
        due(UNKNOWN, x.object(-1, 0, 0));
        for (int odd : NAMELESS) {
            due(UNKNOWN, x.object(odd, 0, 0));
            due(UNKNOWN, x.object(16, odd, 0));
        }
        // objects are those of the row that is asked for, not of one that was asked for before
        due(1, x.object(16, 1, 1));
        due(UNKNOWN, x.object(4, 1, 1));
        chain(5);
        due(4, x.object(20, 4, 1));
        due(UNKNOWN, x.object(20, 5, 0));
    }

    private void objectOutside() {
        on("promise 12: what = 0 its kind, 1 + f its FIELD f; OUTSIDE (what)");
        family(1);
        x.field(1, 1, 2);
        // null; kind 0: null, itself; kind 1: null, itself, with 0 .. 2
        due(1 + 2 + 6, x.kept());
        due(0, x.object(1, 0, 0));
        due(NONE, x.object(1, 0, 1));
        due(OUTSIDE, x.object(1, 0, 2));
        due(1, x.object(8, 0, 0));
        due(0, x.object(8, 0, 1));
        due(2, x.object(8, 0, 2));
        due(OUTSIDE, x.object(8, 0, 3));
        due(OUTSIDE, x.object(8, 0, -1));
        for (int odd : NAMELESS) {
            due(OUTSIDE, x.object(8, 0, odd));
        }
        on("promise 12: a NUMBER 0 is 0, object 0 is 0, null is NONE");
        numberedChain(1);
        due(NONE, x.object(1, 0, 1));
        due(0, x.object(1, 0, 2));
        due(0, x.object(3, 0, 1));
        on("promise 12: all four FIELDS of the fifth object");
        longRows();
        int[] row = {12, 0, 0, 0, 12, 0, 0, 0, 12, 0, 0, 0, 12, 0, 0, 0, 12, 0, 0, 0, 5, 0};
        puts(row);
        int i = x.rank();
        due(2, x.object(i, 4, 0));
        due(NONE, x.object(i, 4, 1));
        due(4, x.object(i, 4, 3));
        due(NONE, x.object(i, 4, 4));
        due(OUTSIDE, x.object(i, 4, 5));
    }

    private void putFortyAtMost() {
        on("promise 13: how many it has");
        for (int n = 1; n <= 40; n++) {
            due(n, x.put(n % 2 == 0 ? LEAST : MOST));
        }
        on("promise 13: ROOM: it has 40");
        for (int n = 0; n < 39; n++) {
            x.put(0);
        }
        due(39, x.about(5));
        due(40, x.put(0));
        due(ROOM, x.put(0));
        due(ROOM, x.put(10));
        due(40, x.about(5));
    }

    private void emptyFullAndEmpty() {
        on("promise 14: THE ROW is empty: how many it had");
        due(0, x.empty());
        due(0, x.empty());
        due(1, x.put(0));
        due(1, x.empty());
        for (int n = 0; n < 41; n++) {
            x.put(0);
        }
        due(40, x.empty());
        due(0, x.about(5));
        // what was put before is gone
        pair(2);
        puts(10, 10);
        x.empty();
        x.put(0);
        due(-11, x.rank());
    }

    private void rankOfTheKept() {
        on("promise 15: THE ROW'S number among the KEPT");
        chain(2);
        int[][] rows = {{0}, {10, 0}, {10, 1}, {10, 10, 0}, {10, 10, 1}, {10, 10, 2}};
        for (int i = 0; i < 6; i++) {
            dueRank(i, rows[i]);
        }
        on("promise 15: NONE: it is none of these, but a row");
        chain(2);
        x.rule(1, 0, 0, NONE);
        int[] among = {0, 1, NONE, 2, NONE, NONE};
        for (int i = 0; i < 6; i++) {
            dueRank(among[i], rows[i]);
        }
        x.clear();
        dueRank(5, rows[5]);
    }

    private void rankOfNoRow() {
        on("promise 15: -10 less the place (from 0) of its first choice that cannot be there");
        chain(2);
        dueRank(-10, 1);
        dueRank(-11, 10, 2);
        dueRank(-12, 10, 10, 3);
        dueRank(-13, 10, 10, 0, 0);
        // the first of several
        dueRank(-10, 99, 99, 99);
        dueRank(-11, 10, -1, 99);
        for (int odd : NAMELESS) {
            dueRank(-10, odd);
        }
        on("promise 15: choices that would fit if a number wrapped around");
        chain(2);
        for (int odd : new int[] {LEAST, LEAST + 10, MOST, MOST - 9, 10 - 65536, 10 + 65536}) {
            dueRank(-11, 10, odd);
            dueRank(-10, odd, 0);
        }
        numbered();
        dueRank(-11, 10, 16);
        dueRank(-11, 10, -16);
        dueRank(-11, 10, 10);
    }

    private void numbered() {
        anew();
        x.kind(NONE);
        x.field(0, 1, 3);
        x.input(0);
    }

    private void rankEndsTooEarly() {
        on("promise 15: or, if it ends too early, how many it has");
        chain(2);
        dueRank(-10);
        dueRank(-11, 10);
        dueRank(-12, 10, 10);
        on("promise 15: THE ROW has more choices than any row: the first behind the end");
        chain(2);
        for (int n = 0; n < 40; n++) {
            x.put(0);
        }
        due(-11, x.rank());
        anew();
        for (int n = 0; n < 40; n++) {
            x.put(0);
        }
        due(-10, x.rank());
        on("promise 15: what cannot be there counts before the RULES");
        chain(2);
        x.rule(0, 0, 0, 0);
        dueRank(NONE, 10, 0);
        dueRank(-12, 10, 0, 0);
        dueRank(-11, 10, 3);
    }

    private void stepOutside() {
        for (int op = 0; op <= 2; op++) {
            on("promise 16: OUTSIDE (v 0 .. 3; f 0 .. 3) of op " + op);
            for (int odd : new int[] {LEAST, -1, 4, 16, MOST}) {
                due(OUTSIDE, x.step(op, odd, 0, 0, 0));
                due(OUTSIDE, x.step(op, 0, odd, 0, 0));
            }
            due(0, x.about(4));
            for (int v = 0; v <= 3; v++) {
                due(2 * v, x.step(op, v, 0, 0, 0));
                due(2 * v + 1, x.step(op, 0, v, 0, 0));
            }
        }
        on("promise 16: OUTSIDE (op)");
        for (int op : new int[] {LEAST, -1, 3, 4, MOST}) {
            due(OUTSIDE, x.step(op, 0, 0, 0, 0));
        }
        due(0, x.about(4));
    }

    private void stepOutsideByNAndM() {
        int[] odds = {LEAST, -1, 4, 17, MOST};
        on("promise 16: OUTSIDE (n: 0 .. 3, of SAME not looked at)");
        for (int odd : odds) {
            due(OUTSIDE, x.step(0, 0, 0, odd, 0));
            due(OUTSIDE, x.step(1, 0, 0, odd, 0));
        }
        for (int n = 0; n < odds.length; n++) {
            due(n, x.step(2, 0, 0, odds[n], 0));
        }
        for (int n = 0; n <= 3; n++) {
            due(5 + 2 * n, x.step(0, 0, 0, n, 0));
            due(6 + 2 * n, x.step(1, 0, 0, n, 0));
        }
        on("promise 16: OUTSIDE (m 0 .. 16, of READ not looked at)");
        int[] wide = {LEAST, -1, 17, MOST};
        for (int odd : wide) {
            due(OUTSIDE, x.step(1, 0, 0, 0, odd));
            due(OUTSIDE, x.step(2, 0, 0, 0, odd));
        }
        for (int n = 0; n < wide.length; n++) {
            due(n, x.step(0, 0, 0, 0, wide[n]));
        }
        due(4, x.step(1, 0, 0, 0, 0));
        due(5, x.step(1, 0, 0, 0, 16));
        due(6, x.step(2, 0, 0, 0, 0));
        due(7, x.step(2, 0, 0, 0, 16));
    }

    private void stepRoom() {
        on("promise 16: ROOM");
        for (int n = 0; n < 16; n++) {
            due(n, x.step(n % 3, 0, 0, 0, 0));
        }
        for (int op = 0; op <= 2; op++) {
            due(ROOM, x.step(op, 0, 0, 0, 0));
        }
        due(16, x.about(4));
    }

    private void eraseAllAndNone() {
        on("promise 17: all STEPS go: how many there were");
        due(0, x.erase());
        for (int n : new int[] {1, 2, 15, 16}) {
            for (int s = 0; s < n; s++) {
                due(s, x.step(2, 2, 3, 0, 0));
            }
            due(n, x.end(0, 4));
            due(n, x.erase());
            due(0, x.about(4));
            due(0, x.end(0, 4));
        }
        due(0, x.erase());
        on("promise 17: what they looked at is not looked at any more");
        chain(2);
        x.step(0, 0, 0, 0, 0);
        due(4, x.ends());
        due(3, x.endOf(5));
        due(1, x.erase());
        due(1, x.ends());
        due(0, x.endOf(5));
        dueLook(0);
    }

    private void endsFewAndMany() {
        on("promise 18: how many ENDS there are: one, where nothing is looked at");
        due(1, x.ends());
        chain(5);
        due(1, x.ends());
        on("promise 18: as many as rows, where all is looked at");
        chain(5);
        for (int n = 0; n < 5; n++) {
            x.step(0, 0, 0, 0, 0);
        }
        due(21, x.ends());
        for (int i = 0; i < 21; i++) {
            due(i, x.endOf(i));
        }
        on("promise 18: ENDS without a KEPT row are there");
        chain(2);
        x.step(0, 0, 0, 0, 0);
        x.rule(0, 0, 0, 0);
        due(4, x.ends());
        dueLook(1, 10, 0);
        dueEnd(1, 0, 1, 0, 1);
        on("promise 18: ROOM");
        oneTooMany();
        due(ROOM, x.ends());
    }

    private void endUnknownAndOutside() {
        on("promise 19: UNKNOWN");
        chain(2);
        x.step(0, 0, 0, 0, 0);
        due(1, x.end(0, 0));
        due(0, x.end(3, 0));
        due(UNKNOWN, x.end(4, 0));
        due(UNKNOWN, x.end(-1, 0));
        for (int odd : NAMELESS) {
            due(UNKNOWN, x.end(odd, 0));
            due(UNKNOWN, x.end(odd, 9));
        }
        on("promise 19: OUTSIDE");
        due(0, x.end(0, 4));
        due(OUTSIDE, x.end(0, 5));
        due(OUTSIDE, x.end(0, -1));
        for (int odd : NAMELESS) {
            due(OUTSIDE, x.end(0, odd));
        }
        on("promise 19: an END of all 4000 rows");
        fourThousand();
        dueEnd(0, 0, 4000, 4000, 0);
    }

    private void lookUnknown() {
        on("promise 20: NONE behind its end");
        due(NONE, x.look(0, 0));
        chain(2);
        x.step(0, 0, 0, 0, 0);
        for (int i : new int[] {2, 3, 17, 18, 21, 22, 23, MOST}) {
            due(NONE, x.look(3, i));
        }
        due(10, x.look(3, 1));
        due(NONE, x.look(0, 1));
        on("promise 20: UNKNOWN (k; i is below 0)");
        chain(2);
        x.step(0, 0, 0, 0, 0);
        due(UNKNOWN, x.look(4, 0));
        due(UNKNOWN, x.look(-1, 0));
        due(UNKNOWN, x.look(0, -1));
        due(UNKNOWN, x.look(3, LEAST));
        for (int odd : NAMELESS) {
            due(UNKNOWN, x.look(odd, 0));
            due(UNKNOWN, x.look(odd, MOST));
        }
    }

    private void endOfUnknown() {
        on("promise 21: UNKNOWN");
        due(0, x.endOf(0));
        due(UNKNOWN, x.endOf(1));
        chain(2);
        x.step(0, 0, 0, 0, 0);
        int[] endsOf = {0, 1, 2, 3, 3, 3};
        for (int i = 0; i < 6; i++) {
            due(endsOf[i], x.endOf(i));
        }
        due(UNKNOWN, x.endOf(6));
        due(UNKNOWN, x.endOf(-1));
        for (int odd : NAMELESS) {
            due(UNKNOWN, x.endOf(odd));
        }
        on("promise 21: rows by what is KEPT, ENDS by ALL ROWS");
        chain(2);
        x.step(0, 0, 0, 0, 0);
        x.rule(0, 0, 0, 0);
        due(0, x.endOf(0));
        due(2, x.endOf(1));
        due(3, x.endOf(2));
        due(3, x.endOf(3));
        due(UNKNOWN, x.endOf(4));
        x.clear();
        due(3, x.endOf(5));
    }

    private void shape() {
        aNewObjectHasNothing();
        objectsAreApart();
        kindUnknown();
        kindRoom();
        fieldUnknown();
        fieldOutside();
        fieldState();
        inputRefusals();
        boundTellsWhatItWas();
    }

    private void rules() {
        ruleUnknown();
        ruleWithoutG();
        ruleOutside();
        ruleByTheFieldsOfItsKind();
        clearAllAndNone();
        aboutOutside();
    }

    private void rows() {
        manyAndKept();
        choiceBehindTheEnd();
        objectUnknown();
        objectOutside();
        putFortyAtMost();
        emptyFullAndEmpty();
        rankOfTheKept();
        rankOfNoRow();
        rankEndsTooEarly();
    }

    private void program() {
        stepOutside();
        stepOutsideByNAndM();
        stepRoom();
        eraseAllAndNone();
        endsFewAndMany();
        endUnknownAndOutside();
        lookUnknown();
        endOfUnknown();
    }

    public static void main(String[] args) {
        PromiseBoundariesTest test = new PromiseBoundariesTest();
        test.shape();
        test.rules();
        test.rows();
        test.program();
        test.checks.finish("PromiseBoundariesTest");
    }
}
