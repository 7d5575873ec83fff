import java.util.ArrayList;
import java.util.Collection;
import java.util.HashMap;
import java.util.HashSet;
import java.util.LinkedHashSet;
import java.util.List;
import java.util.Map;
import java.util.TreeMap;

/**
 * The document told once more, with the Java library and no thought of speed or room: everything
 * is found anew from the words whenever something changed. ModelTest holds LazyHeaps against it.
 */
final class Model {
    static final int NONE = -1;
    static final int UNKNOWN = -101;
    static final int OUTSIDE = -102;
    static final int STATE = -103;
    static final int ROOM = -104;

    private record Field(boolean ref, int of) { }

    private record Law(int sort, int kind, int f, int g) { }

    private record Act(int op, int v, int f, int n, int m) { }

    /** Fields of objects by number; null is NONE. */
    private record Told(List<Integer> inputs, List<Integer> kinds, List<List<Integer>> fields) { }

    private record Seen(List<Integer> look, int outcome, int done) { }

    private final List<Integer> supers = new ArrayList<>();
    private final List<List<Field>> own = new ArrayList<>();
    private final List<Integer> inputs = new ArrayList<>();
    private int bound = 3;
    private final List<Law> laws = new ArrayList<>();
    private final List<Act> acts = new ArrayList<>();
    private final List<Integer> row = new ArrayList<>();

    private List<List<Integer>> rows;
    private List<List<Integer>> keptRows;
    private TreeMap<List<Integer>, List<List<Integer>>> byLook;
    private List<List<Integer>> looks;

    private void changed() {
        rows = null;
        keptRows = null;
        byLook = null;
    }

    private boolean known(int k) {
        return 0 <= k && k < supers.size();
    }

    private boolean under(int k, int top) {
        return k == top || (k != NONE && under(supers.get(k), top));
    }

    private List<Field> fields(int k) {
        List<Field> all = new ArrayList<>();
        if (supers.get(k) != NONE) {
            all.addAll(fields(supers.get(k)));
        }
        all.addAll(own.get(k));
        return all;
    }

    private boolean knownField(int k, int f) {
        return 0 <= f && f < fields(k).size();
    }

    /** A field of a kind that is a REF, or one that is a NUMBER: the one that turn hits. */
    int someField(int kind, boolean ref, int turn) {
        List<Integer> such = new ArrayList<>();
        for (int f = 0; known(kind) && f < fields(kind).size(); f++) {
            if (fields(kind).get(f).ref() == ref) {
                such.add(f);
            }
        }
        return such.isEmpty() ? 0 : such.get(turn % such.size());
    }

    // ---- shape

    int kind(int above) {
        if (above != NONE && !known(above)) {
            return UNKNOWN;
        }
        if (supers.size() == 4) {
            return ROOM;
        }
        changed();
        supers.add(above);
        own.add(new ArrayList<>());
        return supers.size() - 1;
    }

    int field(int kind, int sort, int of) {
        if (!known(kind)) {
            return UNKNOWN;
        }
        if (sort == 0 && !known(of)) {
            return UNKNOWN;
        }
        if (sort != 0 && sort != 1) {
            return OUTSIDE;
        }
        if (sort == 1 && (of < 1 || of > 3)) {
            return OUTSIDE;
        }
        if (supers.contains(kind)) {
            return STATE;
        }
        if (fields(kind).size() == 4) {
            return ROOM;
        }
        changed();
        own.get(kind).add(new Field(sort == 0, of));
        return fields(kind).size() - 1;
    }

    int input(int kind) {
        if (!known(kind)) {
            return UNKNOWN;
        }
        if (inputs.size() == 2) {
            return ROOM;
        }
        changed();
        inputs.add(kind);
        return inputs.size() - 1;
    }

    int bound(int n) {
        if (n < 1 || n > 5) {
            return OUTSIDE;
        }
        changed();
        int was = bound;
        bound = n;
        return was;
    }

    // ---- rules

    int rule(int sort, int kind, int f, int g) {
        if (sort != 6) {
            if (!known(kind) || !knownField(kind, f)) {
                return UNKNOWN;
            }
            boolean none = (sort == 1 || sort == 2) && g == NONE;
            if (sort != 0 && !none && !knownField(kind, g)) {
                return UNKNOWN;
            }
            if (sort < 0 || sort > 6 || !fields(kind).get(f).ref()) {
                return OUTSIDE;
            }
            if (sort >= 1 && sort <= 3 && !none && !fields(kind).get(g).ref()) {
                return OUTSIDE;
            }
            if (sort >= 4 && fields(kind).get(g).ref()) {
                return OUTSIDE;
            }
        }
        if (laws.size() == 6) {
            return ROOM;
        }
        changed();
        laws.add(new Law(sort, kind, f, g));
        return laws.size() - 1;
    }

    int clear() {
        changed();
        int had = laws.size();
        laws.clear();
        return had;
    }

    private boolean holds(Law law, Told heap) {
        List<Integer> inputs = heap.inputs();
        if (law.sort() == 6) {
            return inputs.size() < 2 || inputs.get(0) == NONE
                    || !inputs.get(0).equals(inputs.get(1));
        }
        List<Integer> such = new ArrayList<>();
        for (int x = 0; x < heap.kinds().size(); x++) {
            if (under(heap.kinds().get(x), law.kind())) {
                such.add(x);
            }
        }
        if (law.sort() == 1) {
            return acyclic(law, heap, such);
        }
        if (law.sort() == 2) {
            List<Integer> ends = new ArrayList<>();
            for (int x : such) {
                ends.addAll(targets(law, heap, x));
            }
            return new HashSet<>(ends).size() == ends.size();
        }
        for (int x : such) {
            if (!holdsAt(law, heap, such, x)) {
                return false;
            }
        }
        return true;
    }

    private boolean holdsAt(Law law, Told heap, List<Integer> such, int x) {
        List<Integer> mine = heap.fields().get(x);
        int y = mine.get(law.f());
        switch (law.sort()) {
            case 0:
                return y != NONE;
            case 3:
                return y == NONE || (such.contains(y) && heap.fields().get(y).get(law.g()) == x);
            case 4:
                return !such.contains(y) || mine.get(law.g()) <= heap.fields().get(y).get(law.g());
            default:
                return y == NONE ? mine.get(law.g()) == 0 : mine.get(law.g()) != 0;
        }
    }

    private static List<Integer> targets(Law law, Told heap, int x) {
        List<Integer> all = new ArrayList<>();
        all.add(heap.fields().get(x).get(law.f()));
        if (law.g() != NONE && law.g() != law.f()) {
            all.add(heap.fields().get(x).get(law.g()));
        }
        all.removeIf(y -> y == NONE);
        return all;
    }

    private static boolean acyclic(Law law, Told heap, List<Integer> such) {
        int n = heap.kinds().size();
        boolean[][] comes = new boolean[n][n];
        for (int x : such) {
            for (int y : targets(law, heap, x)) {
                comes[x][y] = true;
            }
        }
        for (int via = 0; via < n; via++) {
            for (int a = 0; a < n; a++) {
                for (int b = 0; b < n; b++) {
                    comes[a][b] |= comes[a][via] && comes[via][b];
                }
            }
        }
        for (int a = 0; a < n; a++) {
            if (comes[a][a]) {
                return false;
            }
        }
        return true;
    }

    // ---- rows

    /** The slots behind these choices: null if there is none, else the choices it allows. */
    private List<Integer> allowed(List<Integer> choices) {
        List<Integer> kinds = new ArrayList<>();
        List<Field> slots = new ArrayList<>();
        inputs.forEach(k -> slots.add(new Field(true, k)));
        for (int place = 0; place < choices.size(); place++) {
            int c = choices.get(place);
            if (slots.get(place).ref() && c >= 10) {
                kinds.add(c - 10);
                slots.addAll(fields(c - 10));
            }
        }
        if (choices.size() == slots.size()) {
            return null;
        }
        Field slot = slots.get(choices.size());
        List<Integer> can = new ArrayList<>();
        if (!slot.ref()) {
            for (int n = 0; n <= slot.of(); n++) {
                can.add(n);
            }
            return can;
        }
        can.add(0);
        for (int j = 0; j < kinds.size(); j++) {
            if (under(kinds.get(j), slot.of())) {
                can.add(1 + j);
            }
        }
        for (int k = 0; k < supers.size() && kinds.size() < bound; k++) {
            if (under(k, slot.of())) {
                can.add(10 + k);
            }
        }
        return can;
    }

    private void grow(List<Integer> choices, List<List<Integer>> into, int most) {
        List<Integer> can = allowed(choices);
        if (can == null) {
            into.add(new ArrayList<>(choices));
            return;
        }
        for (int c : can) {
            if (into.size() <= most) {
                choices.add(c);
                grow(choices, into, most);
                choices.remove(choices.size() - 1);
            }
        }
    }

    private boolean tooMany() {
        if (rows == null) {
            rows = new ArrayList<>();
            grow(new ArrayList<>(), rows, 4000);
        }
        return rows.size() > 4000;
    }

    /** How many rows there are, counted up to one more than most. */
    int count(int most) {
        List<List<Integer>> all = new ArrayList<>();
        grow(new ArrayList<>(), all, most);
        return all.size();
    }

    private Told heapOf(List<Integer> choices) {
        Told heap = new Told(new ArrayList<>(), new ArrayList<>(), new ArrayList<>());
        int place = 0;
        for (int i = 0; i < inputs.size(); i++) {
            heap.inputs().add(objectOf(choices.get(place++), heap));
        }
        for (int o = 0; o < heap.kinds().size(); o++) {
            for (Field field : fields(heap.kinds().get(o))) {
                int c = choices.get(place++);
                heap.fields().get(o).add(field.ref() ? objectOf(c, heap) : Integer.valueOf(c));
            }
        }
        return heap;
    }

    private static Integer objectOf(int c, Told heap) {
        if (c < 10) {
            return c - 1;
        }
        heap.kinds().add(c - 10);
        heap.fields().add(new ArrayList<>());
        return heap.kinds().size() - 1;
    }

    private List<List<Integer>> keptOnes() {
        if (keptRows == null) {
            keptRows = new ArrayList<>();
            for (List<Integer> one : rows) {
                Told heap = heapOf(one);
                if (laws.stream().allMatch(law -> holds(law, heap))) {
                    keptRows.add(one);
                }
            }
        }
        return keptRows;
    }

    int about(int what) {
        if (what >= 10 && known(what - 10)) {
            return fields(what - 10).size();
        }
        Collection<?>[] sizes = {supers, inputs, null, laws, acts, row};
        if (what < 0 || what > 5) {
            return OUTSIDE;
        }
        return what == 2 ? bound : sizes[what].size();
    }

    int many() {
        return tooMany() ? ROOM : rows.size();
    }

    int kept() {
        return tooMany() ? ROOM : keptOnes().size();
    }

    int choice(int i, int k) {
        if (tooMany()) {
            return ROOM;
        }
        if (i < 0 || i >= keptOnes().size() || k < 0) {
            return UNKNOWN;
        }
        List<Integer> one = keptOnes().get(i);
        return k < one.size() ? one.get(k) : NONE;
    }

    int object(int i, int o, int what) {
        if (tooMany()) {
            return ROOM;
        }
        if (i < 0 || i >= keptOnes().size()) {
            return UNKNOWN;
        }
        Told heap = heapOf(keptOnes().get(i));
        if (o < 0 || o >= heap.kinds().size()) {
            return UNKNOWN;
        }
        if (what < 0 || what > heap.fields().get(o).size()) {
            return OUTSIDE;
        }
        return what == 0 ? heap.kinds().get(o) : heap.fields().get(o).get(what - 1);
    }

    // ---- the row

    int put(int c) {
        if (row.size() == 40) {
            return ROOM;
        }
        row.add(c);
        return row.size();
    }

    int empty() {
        int had = row.size();
        row.clear();
        return had;
    }

    int rank() {
        if (tooMany()) {
            return ROOM;
        }
        for (int place = 0; place < row.size(); place++) {
            List<Integer> can = allowed(row.subList(0, place));
            if (can == null || !can.contains(row.get(place))) {
                return -10 - place;
            }
        }
        return allowed(row) == null ? keptOnes().indexOf(row) : -10 - row.size();
    }

    // ---- the program

    int step(int op, int v, int f, int n, int m) {
        boolean fits = op >= 0 && op <= 2 && v >= 0 && v <= 3 && f >= 0 && f <= 3
                && (op == 2 || (n >= 0 && n <= 3)) && (op == 0 || (m >= 0 && m <= 16));
        if (!fits) {
            return OUTSIDE;
        }
        if (acts.size() == 16) {
            return ROOM;
        }
        changed();
        acts.add(new Act(op, v, f, n, m));
        return acts.size() - 1;
    }

    int erase() {
        changed();
        int had = acts.size();
        acts.clear();
        return had;
    }

    /** Slots are lists: (input) or (object, field). The look is made of them when all is over. */
    private Seen play(List<Integer> choices) {
        Told heap = heapOf(choices);
        LinkedHashSet<List<Integer>> lookedAt = new LinkedHashSet<>();
        int[] vars = {NONE, NONE, NONE, NONE};
        boolean[] input = new boolean[4];
        for (int i = 0; i < heap.inputs().size(); i++) {
            vars[i] = heap.inputs().get(i);
            input[i] = true;
        }
        int done = 0;
        int outcome = 0;
        int skip = 0;
        for (Act act : acts) {
            if (skip > 0) {
                skip--;
                continue;
            }
            done++;
            if (input[act.v()]) {
                lookedAt.add(List.of(act.v()));
            }
            int x = vars[act.v()];
            if (act.op() == 2) {
                if (input[act.f()]) {
                    lookedAt.add(List.of(act.f()));
                }
                skip = x == vars[act.f()] ? act.m() : 0;
                continue;
            }
            if (x == NONE) {
                outcome = 1;
                break;
            }
            List<Field> has = fields(heap.kinds().get(x));
            if (act.f() >= has.size() || has.get(act.f()).ref() != (act.op() == 0)) {
                outcome = 2;
                break;
            }
            lookedAt.add(List.of(x, act.f()));
            int value = heap.fields().get(x).get(act.f());
            if (act.op() == 1) {
                skip = value == act.n() ? act.m() : 0;
            } else {
                vars[act.n()] = value;
                input[act.n()] = false;
            }
        }
        return new Seen(told(lookedAt, heap), outcome, done);
    }

    private List<Integer> told(Collection<List<Integer>> lookedAt, Told heap) {
        List<Integer> look = new ArrayList<>();
        Map<Integer, Integer> numbers = new HashMap<>();
        for (List<Integer> slot : lookedAt) {
            boolean isInput = slot.size() == 1;
            int value = isInput ? heap.inputs().get(slot.get(0))
                    : heap.fields().get(slot.get(0)).get(slot.get(1));
            if (!isInput && !fields(heap.kinds().get(slot.get(0))).get(slot.get(1)).ref()) {
                look.add(value);
            } else if (value == NONE) {
                look.add(0);
            } else if (numbers.containsKey(value)) {
                look.add(1 + numbers.get(value));
            } else {
                numbers.put(value, numbers.size());
                look.add(10 + heap.kinds().get(value));
            }
        }
        return look;
    }

    private static int compareLooks(List<Integer> a, List<Integer> b) {
        for (int i = 0; i < Math.min(a.size(), b.size()); i++) {
            if (!a.get(i).equals(b.get(i))) {
                return Integer.compare(a.get(i), b.get(i));
            }
        }
        return Integer.compare(a.size(), b.size());
    }

    private boolean noEnds() {
        if (tooMany()) {
            return true;
        }
        if (byLook == null) {
            byLook = new TreeMap<>(Model::compareLooks);
            for (List<Integer> one : rows) {
                byLook.computeIfAbsent(play(one).look(), look -> new ArrayList<>()).add(one);
            }
            looks = new ArrayList<>(byLook.keySet());
        }
        return false;
    }

    int ends() {
        return noEnds() ? ROOM : looks.size();
    }

    int end(int k, int what) {
        if (noEnds()) {
            return ROOM;
        }
        if (k < 0 || k >= looks.size()) {
            return UNKNOWN;
        }
        List<List<Integer>> having = byLook.get(looks.get(k));
        Seen last = play(having.get(having.size() - 1));
        switch (what) {
            case 0:
                return last.outcome();
            case 1:
                return looks.get(k).size();
            case 2:
                return having.size();
            case 3:
                HashSet<List<Integer>> both = new HashSet<>(keptOnes());
                both.retainAll(new HashSet<>(having));
                return both.size();
            case 4:
                return last.done();
            default:
                return OUTSIDE;
        }
    }

    int look(int k, int i) {
        if (noEnds()) {
            return ROOM;
        }
        if (k < 0 || k >= looks.size() || i < 0) {
            return UNKNOWN;
        }
        return i < looks.get(k).size() ? looks.get(k).get(i) : NONE;
    }

    int endOf(int i) {
        if (noEnds()) {
            return ROOM;
        }
        if (i < 0 || i >= keptOnes().size()) {
            return UNKNOWN;
        }
        return looks.indexOf(play(keptOnes().get(i)).look());
    }
}
