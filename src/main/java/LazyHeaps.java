import java.util.Arrays;

/**
 * All heaps that a program may be given, each once, told as rows of choices and cut by rules of
 * shape; and a small program whose looks part the heaps into ends. DOC.md tells every call.
 */
public final class LazyHeaps {
    public static final int NONE = -1, UNKNOWN = -101, OUTSIDE = -102, STATE = -103, ROOM = -104;

    private static final int MOST_KINDS = 4;
    private static final int MOST_FIELDS = 4;
    private static final int MOST_NUMBER = 3;
    private static final int MOST_INPUTS = 2;
    private static final int MOST_BOUND = 5;
    private static final int MOST_SLOTS = MOST_INPUTS + MOST_BOUND * MOST_FIELDS;
    private static final int MOST_ROWS = 4000;
    private static final int MOST_RULES = 6;
    private static final int MOST_STEPS = 16;
    private static final int MOST_VARIABLES = 4;
    private static final int MOST_PUT = 40;

    private static final int REF = 0;
    private static final int NUMBER = 1;

    /** The choice 10 + k is a new object of kind k. */
    private static final int NEW = 10;

    private static final int ABOUT_FIELDS = 10;

    /** A rank of this less a place tells that THE ROW is no row from that place on. */
    private static final int NO_ROW = -10;

    private static final int NOT_NULL = 0;
    private static final int NO_CYCLE = 1;
    private static final int NOT_SHARED = 2;
    private static final int BACK = 3;
    private static final int RISING = 4;
    private static final int NULL_AT_ZERO = 5;
    private static final int INPUTS_APART = 6;

    private static final int READ = 0;
    private static final int TEST = 1;
    private static final int SAME = 2;

    private static final int WHOLE = 0;
    private static final int THROWN = 1;
    private static final int WRONG = 2;

    /** Rows grow from this many, so that an object that is asked little takes little room. */
    private static final int LEAST_SIZE = 16;

    private final Shape shape;
    private final Rules rules;
    private final Program program;
    private final Heap heap;
    private final Catalogue catalogue;
    private final Play play;
    private final Ends parts;
    private final int[] theRow;
    private int theLength;

    public LazyHeaps() {
        shape = new Shape();
        rules = new Rules();
        program = new Program();
        heap = new Heap(shape);
        catalogue = new Catalogue(heap, rules);
        play = new Play(heap);
        parts = new Ends(catalogue, play);
        theRow = new int[MOST_PUT];
        theLength = 0;
    }

    public int kind(int above) {
        if (above != NONE && !shape.isKind(above)) {
            return UNKNOWN;
        }
        return afterShape(shape.addKind(above));
    }

    public int field(int kind, int sort, int of) {
        if (!shape.isKind(kind) || (sort == REF && !shape.isKind(of))) {
            return UNKNOWN;
        }
        if (sort != REF && (sort != NUMBER || of < 1 || of > MOST_NUMBER)) {
            return OUTSIDE;
        }
        if (shape.isSuper(kind)) {
            return STATE;
        }
        return afterShape(shape.addField(kind, sort, of));
    }

    public int input(int kind) {
        if (!shape.isKind(kind)) {
            return UNKNOWN;
        }
        return afterShape(shape.addInput(kind));
    }

    public int bound(int n) {
        if (n < 1 || n > MOST_BOUND) {
            return OUTSIDE;
        }
        int before = shape.bound;
        if (n != before) {
            forgetRows();
            shape.bound = n;
        }
        return before;
    }

    public int rule(int sort, int kind, int f, int g) {
        if (sort != INPUTS_APART) {
            if (!namesKnown(sort, kind, f, g)) {
                return UNKNOWN;
            }
            if (!sortsFit(sort, kind, f, g)) {
                return OUTSIDE;
            }
        }
        return rules.add(new Rule(sort, kind, f, g));
    }

    public int clear() {
        catalogue.keepAll();
        return rules.drop();
    }

    public int about(int what) {
        switch (what) {
            case 0:
                return shape.kindCount;
            case 1:
                return shape.inputCount;
            case 2:
                return shape.bound;
            case 3:
                return rules.count;
            case 4:
                return program.count;
            case 5:
                return theLength;
            default:
                if (what < ABOUT_FIELDS || !shape.isKind(what - ABOUT_FIELDS)) {
                    return OUTSIDE;
                }
                return shape.fieldsOf(what - ABOUT_FIELDS);
        }
    }

    public int many() {
        return catalogue.list() ? catalogue.rows.count : ROOM;
    }

    public int kept() {
        return catalogue.sift() ? catalogue.keptCount : ROOM;
    }

    public int choice(int i, int k) {
        if (!catalogue.sift()) {
            return ROOM;
        }
        if (!catalogue.loadKept(i) || k < 0) {
            return UNKNOWN;
        }
        return heap.choiceAt(k);
    }

    public int object(int i, int o, int what) {
        if (!catalogue.sift()) {
            return ROOM;
        }
        if (!catalogue.loadKept(i) || !heap.isMet(o)) {
            return UNKNOWN;
        }
        if (what == 0) {
            return heap.kindOf(o);
        }
        if (what < 1 || what > shape.fieldsOf(heap.kindOf(o))) {
            return OUTSIDE;
        }
        return heap.fieldTells(o, what - 1);
    }

    public int put(int c) {
        if (theLength >= MOST_PUT) {
            return ROOM;
        }
        theRow[theLength] = c;
        theLength++;
        return theLength;
    }

    public int empty() {
        int before = theLength;
        theLength = 0;
        return before;
    }

    public int rank() {
        if (!catalogue.sift()) {
            return ROOM;
        }
        int wrong = heap.loadUnsure(theRow, theLength);
        if (wrong != NONE) {
            return NO_ROW - wrong;
        }
        return catalogue.keptNumber(catalogue.rows.find(theRow, theLength));
    }

    public int step(int op, int v, int f, int n, int m) {
        // f is a FIELD or a VARIABLE, n a NUMBER or a VARIABLE: all of these are 0 .. 3
        if (op < READ || op > SAME || !isVariable(v) || f < 0 || f >= MOST_FIELDS) {
            return OUTSIDE;
        }
        if (op != SAME && (n < 0 || n > MOST_NUMBER)) {
            return OUTSIDE;
        }
        if (op != READ && (m < 0 || m > MOST_STEPS)) {
            return OUTSIDE;
        }
        int number = program.add(new Step(op, v, f, n, m));
        if (number != ROOM) {
            parts.forget();
        }
        return number;
    }

    public int erase() {
        parts.forget();
        return program.drop();
    }

    public int ends() {
        return parts.gather(program) ? parts.count : ROOM;
    }

    public int end(int k, int what) {
        if (!parts.gather(program)) {
            return ROOM;
        }
        if (!parts.replay(k, program)) {
            return UNKNOWN;
        }
        switch (what) {
            case 0:
                return play.outcome;
            case 1:
                return play.length;
            case 2:
                return parts.sizeOf(k);
            case 3:
                return catalogue.sift() ? parts.keptIn(k) : ROOM;
            case 4:
                return play.done;
            default:
                return OUTSIDE;
        }
    }

    public int look(int k, int i) {
        if (!parts.gather(program)) {
            return ROOM;
        }
        if (!parts.replay(k, program) || i < 0) {
            return UNKNOWN;
        }
        return play.lookAt(i);
    }

    public int endOf(int i) {
        if (!catalogue.sift() || !parts.gather(program)) {
            return ROOM;
        }
        if (!catalogue.isKeptNumber(i)) {
            return UNKNOWN;
        }
        return parts.partOf(catalogue.keptRow(i));
    }

    /** The rows are other ones when the shape has changed, but not when it refused to. */
    private int afterShape(int number) {
        if (number != ROOM) {
            forgetRows();
        }
        return number;
    }

    private void forgetRows() {
        catalogue.forget();
        parts.forget();
    }

    private boolean namesKnown(int sort, int kind, int f, int g) {
        if (!shape.hasField(kind, f)) {
            return false;
        }
        boolean free = sort == NOT_NULL || (g == NONE && (sort == NO_CYCLE || sort == NOT_SHARED));
        return free || shape.hasField(kind, g);
    }

    private boolean sortsFit(int sort, int kind, int f, int g) {
        if (!shape.isRef(kind, f)) {
            return false;
        }
        switch (sort) {
            case NOT_NULL:
                return true;
            case NO_CYCLE:
            case NOT_SHARED:
                return g == NONE || shape.isRef(kind, g);
            case BACK:
                return shape.isRef(kind, g);
            case RISING:
            case NULL_AT_ZERO:
                return shape.isNumber(kind, g);
            default:
                return false;
        }
    }

    private static boolean isVariable(int v) {
        return v >= 0 && v < MOST_VARIABLES;
    }

    /** A size for n rows that doubles, so that rows that grow bit by bit are made few times. */
    private static int sizeFor(int n) {
        int size = LEAST_SIZE;
        for (int turn = 0; turn < 20 && size < n; turn++) {
            size *= 2;
        }
        return size;
    }

    /** The kinds with their fields, the inputs and the bound. */
    private static final class Shape {
        /** The type of a REF is its kind, that of a NUMBER 0 .. n is this and n. */
        private static final int NUMBER_TYPE = MOST_KINDS;

        /** For each kind a bit for each kind that it is UNDER. */
        private final int[] aboves = new int[MOST_KINDS];
        private final int[] fieldCounts = new int[MOST_KINDS];
        private final int[] types = new int[MOST_KINDS * MOST_FIELDS];
        private final int[] inputs = new int[MOST_INPUTS];
        private int kindCount = 0;
        private int inputCount = 0;
        private int bound = 3;

        static boolean isRefType(int type) {
            return type >= 0 && type < NUMBER_TYPE;
        }

        boolean isKind(int k) {
            return k >= 0 && k < kindCount;
        }

        boolean isUnder(int k, int top) {
            return k >= 0 && k < kindCount && top >= 0 && top < kindCount
                    && (aboves[k] >> top & 1) == 1;
        }

        boolean isSuper(int k) {
            for (int other = k + 1; other < kindCount; other++) {
                if (isUnder(other, k)) {
                    return true;
                }
            }
            return false;
        }

        int fieldsOf(int k) {
            return k >= 0 && k < kindCount ? fieldCounts[k] : 0;
        }

        /** NONE if the kind has no such field. */
        int typeOf(int k, int f) {
            if (k < 0 || k >= kindCount || f < 0 || f >= fieldCounts[k]) {
                return NONE;
            }
            return types[k * MOST_FIELDS + f];
        }

        /** NONE if there is no such input. */
        int typeOfInput(int i) {
            return i >= 0 && i < inputCount ? inputs[i] : NONE;
        }

        boolean hasField(int k, int f) {
            return typeOf(k, f) != NONE;
        }

        boolean isRef(int k, int f) {
            return isRefType(typeOf(k, f));
        }

        boolean isNumber(int k, int f) {
            return typeOf(k, f) >= NUMBER_TYPE;
        }

        /** The number of the new kind, or ROOM; so with fields and inputs. */
        int addKind(int above) {
            if (kindCount >= MOST_KINDS) {
                return ROOM;
            }
            int k = kindCount;
            aboves[k] = 1 << k;
            fieldCounts[k] = 0;
            if (isKind(above)) {
                // a SUPER gets no more fields, so a copy of them stays true
                aboves[k] |= aboves[above];
                fieldCounts[k] = fieldCounts[above];
                System.arraycopy(types, above * MOST_FIELDS, types, k * MOST_FIELDS, MOST_FIELDS);
            }
            kindCount++;
            return k;
        }

        int addField(int k, int sort, int of) {
            int f = fieldsOf(k);
            if (!isKind(k) || f >= MOST_FIELDS) {
                return ROOM;
            }
            types[k * MOST_FIELDS + f] = sort == REF ? of : NUMBER_TYPE + of;
            fieldCounts[k] = f + 1;
            return f;
        }

        int addInput(int k) {
            if (inputCount >= MOST_INPUTS) {
                return ROOM;
            }
            inputs[inputCount] = k;
            inputCount++;
            return inputCount - 1;
        }
    }

    /**
     * The heap that a row tells, choice by choice. Slots have numbers that rise along every row:
     * first the inputs', then four for each object; some of them are not there.
     */
    private static final class Heap {
        private final Shape shape;
        private final int[] kinds = new int[MOST_BOUND];
        /** By slots: the object of a REF or NONE, or the NUMBER. */
        private final int[] told = new int[MOST_SLOTS];
        /** By places of the row, as are the next three. */
        private final int[] choices = new int[MOST_SLOTS];
        private final int[] slots = new int[MOST_SLOTS];
        private final int[] types = new int[MOST_SLOTS];
        private final int[] metBefore = new int[MOST_SLOTS];
        private int length = 0;
        private int met = 0;
        /** The slot that waits for a choice, with its type; NONE if the row is whole. */
        private int slot = NONE;
        private int type = NONE;

        Heap(Shape shape) {
            this.shape = shape;
        }

        boolean isMet(int o) {
            return o >= 0 && o < met;
        }

        int kindOf(int o) {
            return o >= 0 && o < met ? kinds[o] : NONE;
        }

        boolean isUnder(int o, int top) {
            return o >= 0 && o < met && shape.isUnder(kinds[o], top);
        }

        int choiceAt(int place) {
            return place >= 0 && place < length ? choices[place] : NONE;
        }

        int inputTells(int i) {
            return i >= 0 && i < shape.inputCount ? told[i] : NONE;
        }

        /** Of a field that the object's kind has; NONE for an object or field that cannot be. */
        int fieldTells(int o, int f) {
            if (o < 0 || o >= met || f < 0 || f >= MOST_FIELDS) {
                return NONE;
            }
            return told[MOST_INPUTS + o * MOST_FIELDS + f];
        }

        /** Must come first when the shape has changed. */
        void begin() {
            length = 0;
            met = 0;
            waitFrom(0);
        }

        /** Every slot allows 0, so this makes the first row that begins as this one. */
        void fill() {
            for (int turn = 0; turn < MOST_SLOTS && slot != NONE; turn++) {
                take(0);
            }
        }

        /** Goes back to the last choice that can be raised, and raises it; false if none can. */
        boolean raise() {
            for (int place = length - 1; place >= 0; place--) {
                backTo(place);
                int c = choiceAbove(choices[place]);
                if (c != NONE) {
                    take(c);
                    return true;
                }
            }
            return false;
        }

        /** Rows that stand together begin alike, so what was read of the row before is kept. */
        void load(Rows rows, int row) {
            int alike = countAlike(rows, row);
            backTo(alike);
            for (int place = alike; place < MOST_SLOTS && slot != NONE; place++) {
                take(rows.choiceAt(row, place));
            }
        }

        /** NONE, or the place where these choices are no row. */
        int loadUnsure(int[] wanted, int size) {
            begin();
            for (int place = 0; place < size && place < wanted.length; place++) {
                if (!allows(wanted[place])) {
                    return place;
                }
                take(wanted[place]);
            }
            return slot == NONE ? NONE : size;
        }

        private int countAlike(Rows rows, int row) {
            for (int place = 0; place < length; place++) {
                if (choices[place] != rows.choiceAt(row, place)) {
                    return place;
                }
            }
            return length;
        }

        private void backTo(int place) {
            if (place >= 0 && place < length) {
                slot = slots[place];
                type = types[place];
                met = metBefore[place];
                length = place;
            }
        }

        private int choiceAbove(int c) {
            if (!Shape.isRefType(type)) {
                return allows(c + 1) ? c + 1 : NONE;
            }
            for (int next = c + 1; next <= met; next++) {
                if (allows(next)) {
                    return next;
                }
            }
            for (int next = Math.max(c + 1, NEW); next < NEW + shape.kindCount; next++) {
                if (allows(next)) {
                    return next;
                }
            }
            return NONE;
        }

        private boolean allows(int c) {
            if (slot == NONE || c < 0) {
                return false;
            }
            if (!Shape.isRefType(type)) {
                return c <= type - Shape.NUMBER_TYPE;
            }
            if (c <= met) {
                return c == 0 || shape.isUnder(kindOf(c - 1), type);
            }
            return c >= NEW && met < shape.bound && shape.isUnder(c - NEW, type);
        }

        private void take(int c) {
            if (slot < 0 || slot >= MOST_SLOTS || length >= MOST_SLOTS) {
                return;
            }
            slots[length] = slot;
            types[length] = type;
            choices[length] = c;
            metBefore[length] = met;
            length++;
            told[slot] = Shape.isRefType(type) ? objectOf(c) : c;
            waitFrom(slot + 1);
        }

        private int objectOf(int c) {
            if (c < NEW) {
                return c - 1;
            }
            if (met >= MOST_BOUND) {
                return NONE;
            }
            kinds[met] = c - NEW;
            met++;
            return met - 1;
        }

        private void waitFrom(int first) {
            int behind = MOST_INPUTS + met * MOST_FIELDS;
            for (int s = first; s < behind; s++) {
                int past = s - MOST_INPUTS;
                type = past < 0 ? shape.typeOfInput(s)
                        : shape.typeOf(kindOf(past / MOST_FIELDS), past % MOST_FIELDS);
                if (type != NONE) {
                    slot = s;
                    return;
                }
            }
            slot = NONE;
            type = NONE;
        }
    }

    /**
     * Rows of choices, packed: two words each, four bits a choice, the first choice highest, so
     * that words compare as rows do and 4000 rows take little room.
     */
    private static final class Rows {
        private static final int HALF = MOST_SLOTS / 2;
        private static final int CODE_MASK = 15;
        private static final int NEW_CODE = MOST_BOUND + 1;

        private long[] words = new long[2 * LEAST_SIZE];
        private int count = 0;

        void drop() {
            count = 0;
        }

        void add(int[] choices, int length) {
            // one more than MOST_ROWS is taken: it tells that there are too many
            if (count > MOST_ROWS) {
                return;
            }
            if (2 * count + 1 >= words.length) {
                words = Arrays.copyOf(words, 2 * words.length);
            }
            words[2 * count] = pack(choices, 0, length);
            words[2 * count + 1] = pack(choices, HALF, length);
            count++;
        }

        /** 0 behind the end of the row. */
        int choiceAt(int row, int place) {
            if (row < 0 || row >= count || place < 0 || place >= MOST_SLOTS) {
                return 0;
            }
            long word = words[2 * row + place / HALF];
            int code = (int) (word >> 4 * (HALF - 1 - place % HALF)) & CODE_MASK;
            return code < NEW_CODE ? code : code - NEW_CODE + NEW;
        }

        void dropLast() {
            if (count > 0) {
                count--;
            }
        }

        /** Below 0, 0 or above 0, as the one row stands before the other, is it, or behind it. */
        int compare(int one, int other) {
            if (one < 0 || one >= count || other < 0 || other >= count) {
                return 0;
            }
            int side = Long.compare(words[2 * one], words[2 * other]);
            return side != 0 ? side : Long.compare(words[2 * one + 1], words[2 * other + 1]);
        }

        /** The number of a row, where the rows stand in order, or NONE. */
        int find(int[] choices, int length) {
            long first = pack(choices, 0, length);
            long second = pack(choices, HALF, length);
            int low = 0;
            int high = count - 1;
            for (int turn = 0; turn < 32 && low <= high; turn++) {
                int middle = (low + high) / 2;
                int side = Long.compare(words[2 * middle], first);
                if (side == 0) {
                    side = Long.compare(words[2 * middle + 1], second);
                }
                if (side == 0) {
                    return middle;
                }
                if (side < 0) {
                    low = middle + 1;
                } else {
                    high = middle - 1;
                }
            }
            return NONE;
        }

        private static long pack(int[] choices, int from, int length) {
            int until = Math.min(length, choices.length);
            long word = 0;
            for (int place = from; place < from + HALF; place++) {
                int c = place < until ? choices[place] : 0;
                int code = c < NEW ? c : c - NEW + NEW_CODE;
                word = word << 4 | code & CODE_MASK;
            }
            return word;
        }
    }

    /** One rule of shape. */
    private static final class Rule {
        private final int sort;
        private final int top;
        private final int f;
        private final int g;

        Rule(int sort, int top, int f, int g) {
            this.sort = sort;
            this.top = top;
            this.f = f;
            // of 1 and 2 one REF named twice is one REF
            this.g = g == f && (sort == NO_CYCLE || sort == NOT_SHARED) ? NONE : g;
        }

        boolean holdsIn(Heap heap) {
            switch (sort) {
                case NO_CYCLE:
                    return hasNoCycle(heap);
                case NOT_SHARED:
                    return sharesNothing(heap);
                case INPUTS_APART:
                    int first = heap.inputTells(0);
                    return first == NONE || first != heap.inputTells(1);
                default:
                    for (int x = 0; x < heap.met; x++) {
                        if (heap.isUnder(x, top) && !holdsAt(heap, x)) {
                            return false;
                        }
                    }
                    return true;
            }
        }

        private boolean holdsAt(Heap heap, int x) {
            int y = heap.fieldTells(x, f);
            switch (sort) {
                case NOT_NULL:
                    return y != NONE;
                case BACK:
                    return y == NONE || (heap.isUnder(y, top) && heap.fieldTells(y, g) == x);
                case RISING:
                    return !heap.isUnder(y, top) || heap.fieldTells(x, g) <= heap.fieldTells(y, g);
                case NULL_AT_ZERO:
                    return (y == NONE) == (heap.fieldTells(x, g) == 0);
                default:
                    return true;
            }
        }

        /** Takes away objects that lead to none that is left: what stays then leads in a circle. */
        private boolean hasNoCycle(Heap heap) {
            int left = (1 << heap.met) - 1;
            for (int round = 0; round < MOST_BOUND && left != 0; round++) {
                for (int x = 0; x < heap.met; x++) {
                    int out = heap.isUnder(x, top) ? bit(heap, x, f) | bit(heap, x, g) : 0;
                    if ((out & left) == 0) {
                        left &= ~(1 << x);
                    }
                }
            }
            return left == 0;
        }

        private boolean sharesNothing(Heap heap) {
            int seen = 0;
            for (int x = 0; x < heap.met; x++) {
                if (heap.isUnder(x, top)) {
                    int one = bit(heap, x, f);
                    int other = bit(heap, x, g);
                    if ((one & other) != 0 || ((one | other) & seen) != 0) {
                        return false;
                    }
                    seen |= one | other;
                }
            }
            return true;
        }

        private static int bit(Heap heap, int x, int ref) {
            int y = heap.fieldTells(x, ref);
            return y == NONE ? 0 : 1 << y;
        }
    }

    /** The rules that there are. */
    private static final class Rules {
        private final Rule[] list = new Rule[MOST_RULES];
        private int count = 0;

        int add(Rule rule) {
            if (count >= MOST_RULES) {
                return ROOM;
            }
            list[count] = rule;
            count++;
            return count - 1;
        }

        int drop() {
            int before = count;
            count = 0;
            return before;
        }

        boolean holdFrom(int first, Heap heap) {
            for (int i = Math.max(first, 0); i < count; i++) {
                Rule rule = list[i];
                if (rule != null && !rule.holdsIn(heap)) {
                    return false;
                }
            }
            return true;
        }
    }

    /** All rows, and which of them are kept; both are found out when they are asked for. */
    private static final class Catalogue {
        private final Heap heap;
        private final Rules rules;
        private final Rows rows = new Rows();
        private boolean listed = false;
        private int[] keptRows = new int[LEAST_SIZE];
        private int keptCount = 0;
        private int siftedRules = 0;

        Catalogue(Heap heap, Rules rules) {
            this.heap = heap;
            this.rules = rules;
        }

        void forget() {
            listed = false;
        }

        /** False if there are more rows than can be told. */
        boolean list() {
            if (!listed) {
                rows.drop();
                heap.begin();
                boolean more = true;
                for (int n = 0; n <= MOST_ROWS && more; n++) {
                    heap.fill();
                    rows.add(heap.choices, heap.length);
                    more = heap.raise();
                }
                listed = true;
                keepAll();
            }
            return rows.count <= MOST_ROWS;
        }

        void keepAll() {
            siftedRules = 0;
            keptCount = 0;
            if (!listed || rows.count > MOST_ROWS) {
                return;
            }
            if (keptRows.length < rows.count) {
                keptRows = new int[sizeFor(rows.count)];
            }
            for (int row = 0; row < rows.count && row < keptRows.length; row++) {
                keptRows[row] = row;
            }
            keptCount = rows.count;
        }

        /** As list; then the kept rows are held against the rules that came since the last time. */
        boolean sift() {
            if (!list()) {
                return false;
            }
            if (siftedRules < rules.count) {
                int left = 0;
                for (int i = 0; i < keptCount; i++) {
                    int row = keptRows[i];
                    heap.load(rows, row);
                    if (rules.holdFrom(siftedRules, heap)) {
                        keptRows[left] = row;
                        left++;
                    }
                }
                keptCount = left;
                siftedRules = rules.count;
            }
            return true;
        }

        boolean isKeptNumber(int i) {
            return i >= 0 && i < keptCount;
        }

        int keptRow(int i) {
            return isKeptNumber(i) ? keptRows[i] : NONE;
        }

        boolean loadKept(int i) {
            if (!isKeptNumber(i)) {
                return false;
            }
            heap.load(rows, keptRows[i]);
            return true;
        }

        /** The number of a row among the kept ones, or NONE. */
        int keptNumber(int row) {
            int low = 0;
            int high = keptCount - 1;
            for (int turn = 0; turn < 32 && low <= high; turn++) {
                int middle = (low + high) / 2;
                if (keptRows[middle] == row) {
                    return middle;
                }
                if (keptRows[middle] < row) {
                    low = middle + 1;
                } else {
                    high = middle - 1;
                }
            }
            return NONE;
        }
    }

    /** One step of the program. */
    private static final class Step {
        private final int op;
        private final int v;
        private final int f;
        private final int n;
        private final int m;

        Step(int op, int v, int f, int n, int m) {
            this.op = op;
            this.v = v;
            this.f = f;
            this.n = n;
            this.m = m;
        }
    }

    /** The steps that there are. */
    private static final class Program {
        private final Step[] list = new Step[MOST_STEPS];
        private int count = 0;

        int add(Step step) {
            if (count >= MOST_STEPS) {
                return ROOM;
            }
            list[count] = step;
            count++;
            return count - 1;
        }

        int drop() {
            int before = count;
            count = 0;
            return before;
        }

        /** Null behind the last step. */
        Step stepAt(int i) {
            return i >= 0 && i < count ? list[i] : null;
        }
    }

    /** One play of the program with a heap, and what it looked at. */
    private static final class Play {
        private final Heap heap;
        private final int[] variables = new int[MOST_VARIABLES];
        private final int[] numbers = new int[MOST_BOUND];
        private final int[] choices = new int[MOST_SLOTS];
        private int length = 0;
        private int met = 0;
        /** A bit for each slot that was looked at. */
        private int seen = 0;
        /** A bit for each variable that still holds its input. */
        private int held = 0;
        private int done = 0;
        private int outcome = WHOLE;

        Play(Heap heap) {
            this.heap = heap;
        }

        int lookAt(int i) {
            return i >= 0 && i < length ? choices[i] : NONE;
        }

        void run(Program program) {
            begin();
            int at = 0;
            for (int turn = 0; turn < MOST_STEPS && outcome == WHOLE; turn++) {
                Step step = program.stepAt(at);
                if (step == null) {
                    return;
                }
                at += 1 + leftOutBehind(step);
            }
        }

        private void begin() {
            Arrays.fill(variables, NONE);
            Arrays.fill(numbers, NONE);
            length = 0;
            met = 0;
            seen = 0;
            done = 0;
            outcome = WHOLE;
            for (int i = 0; i < MOST_INPUTS; i++) {
                variables[i] = heap.inputTells(i);
            }
            held = (1 << heap.shape.inputCount) - 1;
        }

        /** Does a step; answers how many behind it are left out. */
        private int leftOutBehind(Step step) {
            done++;
            int x = asked(step.v);
            if (step.op == SAME) {
                return x == asked(step.f) ? step.m : 0;
            }
            if (x == NONE) {
                outcome = THROWN;
                return 0;
            }
            int type = heap.shape.typeOf(heap.kindOf(x), step.f);
            boolean isRef = Shape.isRefType(type);
            if (type == NONE || isRef != (step.op == READ)) {
                outcome = WRONG;
                return 0;
            }
            int value = heap.fieldTells(x, step.f);
            note(MOST_INPUTS + x * MOST_FIELDS + step.f, isRef, value);
            if (step.op == TEST) {
                return value == step.n ? step.m : 0;
            }
            change(step.n, value);
            return 0;
        }

        private int asked(int v) {
            if (!isVariable(v)) {
                return NONE;
            }
            if ((held >> v & 1) == 1) {
                note(v, true, variables[v]);
            }
            return variables[v];
        }

        private void change(int v, int value) {
            if (isVariable(v)) {
                variables[v] = value;
                held &= ~(1 << v);
            }
        }

        private void note(int slot, boolean isRef, int value) {
            if ((seen >> slot & 1) == 1 || length >= MOST_SLOTS) {
                return;
            }
            seen |= 1 << slot;
            int c = value;
            if (isRef) {
                c = 0;
                if (value >= 0 && value < MOST_BOUND) {
                    c = numbers[value] == NONE ? NEW + heap.kindOf(value) : 1 + numbers[value];
                    if (numbers[value] == NONE) {
                        numbers[value] = met;
                        met++;
                    }
                }
            }
            choices[length] = c;
            length++;
        }
    }

    /**
     * The ends. What is told of an end is found by a play with the first of its rows, as all of
     * them play alike.
     */
    private static final class Ends {
        private final Catalogue catalogue;
        private final Play play;
        /** Those of all rows, but a look is not told again for the row behind. */
        private final Rows looks = new Rows();
        private int[] order = new int[LEAST_SIZE];
        private int[] spare = new int[LEAST_SIZE];
        private int[] lookOfRow = new int[LEAST_SIZE];
        private int[] partOfLook = new int[LEAST_SIZE];
        private int[] firstRows = new int[LEAST_SIZE];
        private boolean gathered = false;
        private int count = 0;

        Ends(Catalogue catalogue, Play play) {
            this.catalogue = catalogue;
            this.play = play;
        }

        void forget() {
            gathered = false;
        }

        /** False if there are more rows than can be told. */
        boolean gather(Program program) {
            if (!catalogue.list()) {
                return false;
            }
            if (!gathered) {
                makeRoom(catalogue.rows.count);
                looks.drop();
                for (int row = 0; row < catalogue.rows.count && row < lookOfRow.length; row++) {
                    catalogue.heap.load(catalogue.rows, row);
                    play.run(program);
                    looks.add(play.choices, play.length);
                    if (row > 0 && looks.compare(looks.count - 2, looks.count - 1) == 0) {
                        looks.dropLast();
                    }
                    lookOfRow[row] = looks.count - 1;
                }
                sort();
                nameParts();
                gathered = true;
            }
            return true;
        }

        boolean replay(int k, Program program) {
            if (k < 0 || k >= count) {
                return false;
            }
            catalogue.heap.load(catalogue.rows, firstRows[k]);
            play.run(program);
            return true;
        }

        int partOf(int row) {
            if (row < 0 || row >= lookOfRow.length) {
                return NONE;
            }
            int look = lookOfRow[row];
            return look >= 0 && look < partOfLook.length ? partOfLook[look] : NONE;
        }

        int sizeOf(int k) {
            int size = 0;
            for (int row = 0; row < catalogue.rows.count; row++) {
                if (partOf(row) == k) {
                    size++;
                }
            }
            return size;
        }

        int keptIn(int k) {
            int size = 0;
            for (int i = 0; i < catalogue.keptCount; i++) {
                if (partOf(catalogue.keptRow(i)) == k) {
                    size++;
                }
            }
            return size;
        }

        private void makeRoom(int n) {
            if (order.length < n) {
                int size = sizeFor(n);
                order = new int[size];
                spare = new int[size];
                lookOfRow = new int[size];
                partOfLook = new int[size];
                firstRows = new int[size];
            }
        }

        private void sort() {
            int many = Math.min(looks.count, order.length);
            for (int i = 0; i < many; i++) {
                order[i] = i;
            }
            for (int width = 1; width < many; width *= 2) {
                for (int from = 0; from < many; from += 2 * width) {
                    merge(from, Math.min(from + width, many), Math.min(from + 2 * width, many));
                }
                int[] sorted = spare;
                spare = order;
                order = sorted;
            }
        }

        private void merge(int from, int middle, int behind) {
            int left = from;
            int right = middle;
            for (int to = from; to < behind && to < spare.length; to++) {
                boolean rightOne = left >= middle
                        || (right < behind && looks.compare(order[right], order[left]) < 0);
                if (rightOne) {
                    spare[to] = order[right];
                    right++;
                } else {
                    spare[to] = order[left];
                    left++;
                }
            }
        }

        private void nameParts() {
            count = 0;
            for (int i = 0; i < looks.count && i < order.length; i++) {
                int look = order[i];
                if (i == 0 || looks.compare(order[i - 1], look) != 0) {
                    count++;
                }
                if (look >= 0 && look < partOfLook.length) {
                    partOfLook[look] = count - 1;
                }
            }
            // from behind, so that the first row of each end is the one that stays
            for (int row = catalogue.rows.count - 1; row >= 0; row--) {
                int part = partOf(row);
                if (part >= 0 && part < firstRows.length) {
                    firstRows[part] = row;
                }
            }
        }
    }
}
