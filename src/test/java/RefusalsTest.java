import java.util.ArrayList;
import java.util.List;

/** REFUSALS: of several the first one that the document names; what is refused changes nothing. */
public final class RefusalsTest extends Bench {
    private static final int CALLS = 512;

    /** A call that is refused. */
    private interface Call {
        int on(LazyHeaps x);
    }

    /** Some room is left everywhere: kind 0 with a REF and a NUMBER, kind 1 under it. */
    private void open() {
        numberedChain(2);
        x.kind(0);
        x.field(1, 1, 1);
        x.rule(1, 0, 0, NONE);
        x.step(0, 0, 0, 1, 0);
        x.step(1, 1, 1, 1, 0);
        x.put(10);
        x.put(0);
        x.put(1);
    }

    /** As much of everything as there may be, with 113 rows. */
    private void full() {
        anew();
        x.kind(NONE);
        x.field(0, 0, 0);
        x.field(0, 1, 3);
        x.field(0, 1, 1);
        x.field(0, 1, 2);
        x.kind(0);
        x.kind(NONE);
        x.kind(NONE);
        for (int f = 0; f < 4; f++) {
            x.field(2, 0, 2);
            x.field(3, 1, 3);
        }
        x.input(0);
        x.input(2);
        x.bound(1);
        x.rule(5, 0, 0, 1);
        for (int n = 1; n < 6; n++) {
            x.rule(4, 0, 0, n % 3 + 1);
        }
        for (int n = 0; n < 16; n++) {
            x.step(n % 2, 0, n % 4, 3, 1);
        }
        for (int n = 0; n < 40; n++) {
            x.put(n);
        }
    }

    /** What can be seen of the object, by some sixty calls. */
    private List<Integer> seen() {
        List<Integer> all = new ArrayList<>();
        for (int what = -1; what < 15; what++) {
            all.add(x.about(what));
        }
        int kept = x.kept();
        int ends = x.ends();
        all.addAll(List.of(x.many(), kept, x.rank(), ends));
        for (int k = 0; k < 7; k++) {
            all.add(x.choice(kept - 1, k));
            all.add(x.choice(kept / 2, k));
        }
        for (int what = 0; what < 6; what++) {
            all.add(x.object(kept - 1, 0, what));
            all.add(x.end(0, what));
            all.add(x.end(ends - 1, what));
            all.add(x.look(ends - 1, what));
        }
        all.add(x.endOf(kept - 1));
        return all;
    }

    private void refused(int want, Call call) {
        List<Integer> before = seen();
        due(want, call.on(x));
        due(1, seen().equals(before) ? 1 : 0);
    }

    private void refusedChangesNothingWhereThereIsRoom() {
        on("REFUSALS: what is refused changes nothing: where there is room");
        Call[] unknown = {
            y -> y.kind(2), y -> y.kind(-2), y -> y.field(2, 0, 0), y -> y.field(1, 0, 2),
            y -> y.field(-1, 1, 1), y -> y.input(2), y -> y.input(-1), y -> y.rule(0, 2, 0, 0),
            y -> y.rule(0, 0, 2, 0), y -> y.rule(1, 0, 0, 2), y -> y.rule(3, 0, 0, -1),
            y -> y.rule(7, 0, 0, -1), y -> y.choice(y.kept(), 0), y -> y.choice(0, -1),
            y -> y.object(y.kept(), 0, 0), y -> y.object(0, 0, 0), y -> y.object(1, 1, 0),
            y -> y.end(y.ends(), 0), y -> y.look(y.ends(), 0), y -> y.look(0, -1),
            y -> y.endOf(y.kept()), y -> y.endOf(-1),
        };
        for (Call call : unknown) {
            open();
            refused(UNKNOWN, call);
        }
        Call[] outside = {
            y -> y.field(1, 2, 0), y -> y.field(1, 1, 0), y -> y.field(1, 1, 4), y -> y.bound(0),
            y -> y.bound(6), y -> y.rule(7, 0, 0, 0), y -> y.rule(0, 0, 1, 0),
            y -> y.rule(1, 0, 0, 1), y -> y.rule(4, 0, 0, 0), y -> y.about(6), y -> y.about(12),
            y -> y.object(1, 0, 3), y -> y.object(1, 0, -1), y -> y.step(3, 0, 0, 0, 0),
            y -> y.step(0, 4, 0, 0, 0), y -> y.step(1, 0, 4, 0, 0), y -> y.step(1, 0, 0, 4, 0),
            y -> y.step(2, 0, 0, 0, 17), y -> y.end(0, 5), y -> y.end(0, -1),
        };
        for (Call call : outside) {
            open();
            refused(OUTSIDE, call);
        }
        open();
        refused(STATE, y -> y.field(0, 1, 1));
        refused(STATE, y -> y.field(0, 0, 1));
    }

    private void refusedChangesNothingWhereAllIsFull() {
        on("REFUSALS: what is refused changes nothing: where all is full");
        full();
        due(113, x.many());
        Call[] room = {
            y -> y.kind(NONE), y -> y.kind(3), y -> y.field(1, 0, 0), y -> y.field(3, 1, 1),
            y -> y.input(0), y -> y.input(3), y -> y.rule(6, 0, 0, 0), y -> y.rule(1, 2, 0, 1),
            y -> y.put(0), y -> y.step(0, 0, 0, 0, 0), y -> y.step(2, 3, 3, 9, 16),
        };
        for (Call call : room) {
            full();
            refused(ROOM, call);
        }
        full();
        refused(STATE, y -> y.field(0, 1, 1));
        refused(UNKNOWN, y -> y.kind(4));
        refused(OUTSIDE, y -> y.step(0, 0, 0, 4, 0));
    }

    private void refusedChangesNothingWhereRowsAreTooMany() {
        on("REFUSALS: what is refused changes nothing: where there are too many rows");
        oneTooMany();
        x.bound(1);
        x.step(2, 0, 1, 0, 0);
        x.put(10);
        List<Integer> before = seen();
        x.bound(2);
        dueRoomForRows();
        due(2, x.bound(1));
        due(1, seen().equals(before) ? 1 : 0);
    }

    private void whatComesBehindARefusalGoesOn() {
        on("REFUSALS: the next number is the one that was refused before");
        open();
        due(UNKNOWN, x.kind(2));
        due(2, x.kind(NONE));
        due(OUTSIDE, x.field(2, 1, 4));
        due(0, x.field(2, 1, 3));
        due(UNKNOWN, x.input(3));
        due(1, x.input(2));
        due(OUTSIDE, x.rule(4, 0, 0, 0));
        due(1, x.rule(4, 0, 0, 1));
        due(OUTSIDE, x.step(1, 0, 0, 0, 17));
        due(2, x.step(1, 0, 0, 0, 16));
        due(OUTSIDE, x.bound(6));
        due(2, x.bound(3));
        full();
        due(ROOM, x.put(0));
        due(40, x.empty());
        due(1, x.put(0));
        due(ROOM, x.rule(6, 0, 0, 0));
        due(6, x.clear());
        due(0, x.rule(6, 0, 0, 0));
        due(ROOM, x.step(0, 0, 0, 0, 0));
        due(16, x.erase());
        due(0, x.step(0, 0, 0, 0, 0));
    }

    private void unknownComesFirst() {
        on("REFUSALS: UNKNOWN before OUTSIDE, STATE, ROOM");
        full();
        due(UNKNOWN, x.kind(4));
        due(UNKNOWN, x.field(4, 2, 0));
        due(UNKNOWN, x.field(4, 1, 9));
        due(UNKNOWN, x.field(0, 0, 4));
        due(UNKNOWN, x.field(3, 0, 4));
        due(UNKNOWN, x.field(3, 0, NONE));
        due(UNKNOWN, x.input(4));
        due(UNKNOWN, x.rule(0, 4, 0, 0));
        due(UNKNOWN, x.rule(0, 0, 4, 0));
        due(UNKNOWN, x.rule(5, 0, 1, 4));
        due(UNKNOWN, x.rule(7, 0, 0, 4));
        due(UNKNOWN, x.rule(-1, 4, 0, 0));
        due(UNKNOWN, x.object(0, 0, 9));
        due(UNKNOWN, x.object(-1, 0, 9));
        due(UNKNOWN, x.end(-1, 9));
        due(UNKNOWN, x.end(x.ends(), -1));
    }

    private void outsideComesNext() {
        on("REFUSALS: OUTSIDE before STATE, ROOM");
        full();
        due(OUTSIDE, x.field(0, 2, 0));
        due(OUTSIDE, x.field(0, 1, 0));
        due(OUTSIDE, x.field(0, 1, 4));
        due(OUTSIDE, x.field(3, -1, 0));
        due(OUTSIDE, x.field(3, 1, 4));
        due(OUTSIDE, x.rule(0, 0, 1, 0));
        due(OUTSIDE, x.rule(7, 0, 0, 0));
        due(OUTSIDE, x.rule(4, 0, 0, 0));
        due(OUTSIDE, x.step(3, 0, 0, 0, 0));
        due(OUTSIDE, x.step(0, 4, 0, 0, 0));
        due(OUTSIDE, x.step(0, 0, 4, 0, 0));
        due(OUTSIDE, x.step(0, 0, 0, 4, 0));
        due(OUTSIDE, x.step(1, 0, 0, 0, 17));
        on("REFUSALS: STATE before ROOM");
        full();
        due(4, x.about(10));
        due(STATE, x.field(0, 0, 0));
        due(STATE, x.field(0, 1, 1));
    }

    private void roomFirstWhereRowsAreTooMany() {
        on("REFUSALS: ROOM (first) of what asks for rows");
        oneTooMany();
        for (int odd : new int[] {-1, 9999, LEAST, MOST}) {
            due(ROOM, x.choice(odd, 0));
            due(ROOM, x.choice(0, odd));
            due(ROOM, x.object(odd, 0, 0));
            due(ROOM, x.object(0, odd, 0));
            due(ROOM, x.object(0, 0, odd));
            due(ROOM, x.end(odd, 0));
            due(ROOM, x.end(0, odd));
            due(ROOM, x.look(odd, 0));
            due(ROOM, x.look(0, odd));
            due(ROOM, x.endOf(odd));
        }
        // a row that could not be one is not looked at
        x.put(LEAST);
        due(ROOM, x.rank());
    }

    private void fiveHundredAndTwelveCalls() {
        on("An object is used for at most 512 calls");
        chain(2);
        int calls = 4;
        for (; calls < CALLS - 4; calls += 4) {
            due(1, x.put(10));
            due(-11, x.rank());
            due(1, x.empty());
            due(6, x.many());
        }
        due(0, x.step(0, 0, 0, 0, 0));
        due(4, x.ends());
        due(0, x.rule(0, 0, 0, 0));
        due(4, x.kept());
        due(CALLS, calls + 4);
    }

    public static void main(String[] args) {
        RefusalsTest test = new RefusalsTest();
        test.refusedChangesNothingWhereThereIsRoom();
        test.refusedChangesNothingWhereAllIsFull();
        test.refusedChangesNothingWhereRowsAreTooMany();
        test.whatComesBehindARefusalGoesOn();
        test.unknownComesFirst();
        test.outsideComesNext();
        test.roomFirstWhereRowsAreTooMany();
        test.fiveHundredAndTwelveCalls();
        test.checks.finish("RefusalsTest");
    }
}
