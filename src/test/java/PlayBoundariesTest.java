/** The boundary cases of the document's part 4, plays and their looks: a test for each sentence. */
public final class PlayBoundariesTest extends Bench {
    private static final int READ = 0;
    private static final int TEST = 1;
    private static final int SAME = 2;

    private static final int WHOLE = 0;
    private static final int THROWN = 1;
    private static final int WRONG = 2;

    /** Steps that look at nothing and leave nothing out. */
    private void idle(int steps) {
        for (int n = 0; n < steps; n++) {
            x.step(SAME, 2, 3, 0, 0);
        }
    }

    /** One kind with a NUMBER 0 .. n, one input: null, and an object for each of 0 .. n. */
    private void numbers(int n) {
        anew();
        x.kind(NONE);
        x.field(0, 1, n);
        x.input(0);
    }

    /** As chain(1), and a second input: seven rows. */
    private void twoInputs() {
        chain(1);
        x.input(0);
    }

    private void stepsAreSixteenAtMost() {
        on("part 4: STEPS 0, 1, .. (16 at most)");
        for (int n = 0; n < 16; n++) {
            due(n, x.about(4));
            due(n, x.step(SAME, 2, 3, 0, 0));
        }
        due(ROOM, x.step(SAME, 2, 3, 0, 0));
        due(ROOM, x.step(READ, 2, 0, 0, 0));
        due(16, x.about(4));
        // all of them are done, and not the one that was refused
        dueEnd(0, WHOLE, 1, 1, 16);
    }

    private void noStepsAreWhole() {
        on("part 4: behind the last STEP WHOLE, where there is none, too");
        chain(2);
        due(1, x.ends());
        dueEnd(0, WHOLE, 6, 6, 0);
        dueLook(0);
        due(0, x.endOf(5));
    }

    private void theSixteenthStepMayEndThePlay() {
        on("part 4: the PLAY ends in the last STEP that there may be");
        idle(15);
        x.step(READ, 3, 0, 0, 0);
        dueEnd(0, THROWN, 1, 1, 16);
        numbers(1);
        idle(15);
        x.step(READ, 0, 0, 0, 0);
        due(2, x.ends());
        dueEnd(0, THROWN, 1, 1, 16);
        dueEnd(1, WRONG, 2, 2, 16);
    }

    private void variablesWithoutInputAreNull() {
        on("part 4: VARIABLES 0 and 1 are the INPUTS (null, where there is none), 2 and 3 null");
        for (int inputs = 0; inputs <= 2; inputs++) {
            for (int v = 0; v < 4; v++) {
                anew();
                x.kind(NONE);
                x.field(0, 0, 0);
                x.bound(1);
                for (int i = 0; i < inputs; i++) {
                    x.input(0);
                }
                x.step(READ, v, 0, 2, 0);
                due(v < inputs ? 3 : 1, x.ends());
                due(v < inputs ? 1 : 0, x.end(0, 1));
                due(THROWN, x.end(0, 0));
                due(1, x.end(0, 4));
            }
        }
        on("part 4: null VARIABLES are the same");
        x.step(SAME, 0, 1, 0, 1);
        x.step(READ, 0, 0, 0, 0);
        x.step(SAME, 1, 2, 0, 1);
        x.step(READ, 0, 0, 0, 0);
        x.step(SAME, 3, 0, 0, 1);
        x.step(READ, 0, 0, 0, 0);
        dueEnd(0, WHOLE, 1, 1, 3);
    }

    private void readGoesIntoAnyVariable() {
        on("part 4: READ: VARIABLE n becomes what FIELD f of the object of v tells");
        for (int n = 0; n < 4; n++) {
            chain(2);
            x.step(READ, 0, 0, n, 0);
            x.step(READ, n, 0, 3 - n, 0);
            due(6, x.ends());
            dueLook(0, 0);
            dueEnd(0, THROWN, 1, 1, 1);
            // null was read
            dueLook(1, 10, 0);
            dueEnd(1, THROWN, 1, 1, 2);
            // the object itself was read: its FIELD is told once
            dueLook(2, 10, 1);
            dueEnd(2, WHOLE, 1, 1, 2);
            dueLook(3, 10, 10, 0);
            dueLook(5, 10, 10, 2);
            dueEnd(5, WHOLE, 1, 1, 2);
        }
    }

    private void testHitsOneNumber() {
        on("part 4: TEST: if the NUMBER f of the object of v is n");
        for (int most = 1; most <= 3; most++) {
            for (int n = 0; n <= 3; n++) {
                numbers(most);
                x.step(TEST, 0, 0, n, 1);
                idle(2);
                due(1 + most + 1, x.ends());
                dueEnd(0, THROWN, 1, 1, 1);
                for (int value = 0; value <= most; value++) {
                    dueLook(1 + value, 10, value);
                    dueEnd(1 + value, WHOLE, 1, 1, value == n ? 2 : 3);
                }
            }
        }
    }

    private void theNextStepsAreLeftOut() {
        on("part 4: the next m STEPS (as far as there are) are left out: TEST");
        for (int m = 0; m <= 16; m++) {
            numbers(1);
            due(0, x.step(TEST, 0, 0, 1, m));
            idle(15);
            dueEnd(1, WHOLE, 1, 1, 16);
            dueEnd(2, WHOLE, 1, 1, 16 - Math.min(m, 15));
        }
        on("part 4: the next m STEPS (as far as there are) are left out: SAME");
        for (int m = 0; m <= 16; m++) {
            anew();
            due(0, x.step(SAME, 2, 2, 0, m));
            idle(15);
            dueEnd(0, WHOLE, 1, 1, 16 - Math.min(m, 15));
        }
        on("part 4: the last STEP leaves nothing out");
        idle(15);
        x.step(SAME, 2, 3, 0, 16);
        dueEnd(0, WHOLE, 1, 1, 16);
        on("part 4: just m STEPS are left out");
        x.step(SAME, 2, 3, 0, 1);
        x.step(READ, 2, 0, 0, 0);
        x.step(SAME, 2, 3, 0, 2);
        x.step(READ, 2, 0, 0, 0);
        x.step(READ, 2, 0, 0, 0);
        x.step(READ, 2, 0, 0, 0);
        dueEnd(0, THROWN, 1, 1, 3);
        on("part 4: m of READ leaves nothing out");
        chain(1);
        x.step(READ, 0, 0, 2, 16);
        idle(1);
        dueEnd(1, WHOLE, 1, 1, 2);
    }

    private void sameOfNullAndObjects() {
        on("part 4: SAME: if both tell the same, or both null");
        pair(2);
        x.step(SAME, 0, 1, 0, 1);
        idle(1);
        due(5, x.ends());
        int[][] looks = {{0, 0}, {0, 10}, {10, 0}, {10, 1}, {10, 10}};
        for (int k = 0; k < 5; k++) {
            dueLook(k, looks[k]);
            dueEnd(k, WHOLE, 1, 1, k == 0 || k == 3 ? 1 : 2);
        }
        on("part 4: SAME: a VARIABLE and itself");
        for (int v = 0; v < 4; v++) {
            chain(1);
            x.step(SAME, v, v, 0, 1);
            idle(1);
            due(v == 0 ? 2 : 1, x.ends());
            due(1, x.end(x.ends() - 1, 4));
        }
        on("part 4: SAME: n is not looked at");
        due(0, x.step(SAME, 2, 3, LEAST, 0));
        due(1, x.step(SAME, 2, 3, MOST, 0));
        dueEnd(0, WHOLE, 1, 1, 2);
    }

    private void nullIsThrown() {
        on("part 4: if v is null in READ or TEST, the PLAY ends THROWN");
        for (int op = READ; op <= TEST; op++) {
            numberedChain(1);
            x.step(op, 0, op, 2, 0);
            idle(3);
            dueLook(0, 0);
            dueEnd(0, THROWN, 1, 1, 1);
            // null comes before what the FIELD is
            x.erase();
            x.step(op, 2, 3, 0, 0);
            due(1, x.ends());
            dueLook(0);
            dueEnd(0, THROWN, 5, 5, 1);
        }
    }

    private void aFieldThatThereIsNotIsWrong() {
        on("part 4: if its kind has no FIELD f, it ends WRONG");
        for (int f = 0; f < 4; f++) {
            anew();
            x.kind(NONE);
            x.input(0);
            for (int n = 0; n < f; n++) {
                x.field(0, 0, 0);
            }
            x.bound(1);
            x.step(READ, 0, f, 2, 0);
            idle(1);
            due(2, x.ends());
            dueLook(1, 10);
            dueEnd(1, WRONG, 1 << f, 1 << f, 1);
            x.field(0, 0, 0);
            due(3, x.ends());
            dueLook(2, 10, 1);
            dueEnd(2, WHOLE, 1 << f, 1 << f, 2);
        }
    }

    private void aFieldOfTheOtherSortIsWrong() {
        on("part 4: if (READ) that is no REF, (TEST) no NUMBER, it ends WRONG (not looked at)");
        numberedChain(1);
        x.step(READ, 0, 1, 2, 0);
        idle(1);
        due(2, x.ends());
        dueLook(1, 10);
        dueEnd(1, WRONG, 4, 4, 1);
        x.erase();
        x.step(TEST, 0, 0, 0, 0);
        idle(1);
        due(2, x.ends());
        dueLook(1, 10);
        dueEnd(1, WRONG, 4, 4, 1);
        // a WRONG one behind others: what they looked at stays
        x.erase();
        x.step(READ, 0, 0, 2, 0);
        x.step(TEST, 2, 0, 0, 0);
        due(3, x.ends());
        dueLook(1, 10, 0);
        dueEnd(1, THROWN, 2, 2, 2);
        dueLook(2, 10, 1);
        dueEnd(2, WRONG, 2, 2, 2);
    }

    private void theKindOfTheObjectCounts() {
        on("part 4: its kind: that of the object, not that of the REF");
        x.kind(NONE);
        x.kind(0);
        x.kind(0);
        x.field(1, 0, 0);
        x.field(2, 1, 1);
        x.input(0);
        x.bound(1);
        x.step(READ, 0, 0, 2, 0);
        // null, kind 0 without FIELDS, kind 1 with a REF, kind 2 with a NUMBER
        due(5, x.ends());
        dueEnd(0, THROWN, 1, 1, 1);
        dueEnd(1, WRONG, 1, 1, 1);
        dueLook(2, 11, 0);
        dueLook(3, 11, 1);
        dueEnd(3, WHOLE, 1, 1, 1);
        dueLook(4, 12);
        dueEnd(4, WRONG, 2, 2, 1);
        x.erase();
        x.step(TEST, 0, 0, 0, 0);
        due(5, x.ends());
        dueLook(2, 11);
        dueEnd(2, WRONG, 2, 2, 1);
        dueLook(3, 12, 0);
        dueEnd(4, WHOLE, 1, 1, 1);
    }

    private void ofVFirstOfFThen() {
        on("THE LOOK: the SLOT of an INPUT, of v first, of f then");
        pair(2);
        x.step(SAME, 1, 0, 0, 0);
        due(5, x.ends());
        // row 1 is [0 10], its LOOK [10 0]
        due(2, x.endOf(1));
        dueLook(2, 10, 0);
        due(1, x.endOf(2));
        dueLook(1, 0, 10);
        x.erase();
        x.step(SAME, 0, 1, 0, 0);
        due(1, x.endOf(1));
        due(2, x.endOf(2));
    }

    private void aSlotIsToldOnce() {
        on("THE LOOK: in the order in which that is done first: an INPUT");
        pair(2);
        x.step(SAME, 0, 0, 0, 0);
        due(2, x.ends());
        dueLook(0, 0);
        dueLook(1, 10);
        x.step(SAME, 0, 0, 0, 0);
        x.step(SAME, 1, 0, 0, 0);
        x.step(SAME, 0, 1, 0, 0);
        due(5, x.ends());
        dueLook(3, 10, 1);
        on("THE LOOK: in the order in which that is done first: a FIELD, by two VARIABLES");
        twoInputs();
        x.step(READ, 0, 0, 2, 0);
        x.step(READ, 1, 0, 3, 0);
        due(5, x.ends());
        dueLook(0, 0);
        dueEnd(0, THROWN, 3, 3, 1);
        dueLook(1, 10, 0, 0);
        dueEnd(1, THROWN, 1, 1, 2);
        dueLook(2, 10, 0, 1);
        dueEnd(2, WHOLE, 1, 1, 2);
        dueLook(4, 10, 1, 1);
        dueEnd(4, WHOLE, 1, 1, 2);
    }

    private void readChangesAVariable() {
        on("THE LOOK: a VARIABLE that still holds it (READ did not change it)");
        twoInputs();
        x.step(READ, 0, 0, 1, 0);
        x.step(SAME, 1, 1, 0, 0);
        due(3, x.ends());
        dueLook(0, 0);
        dueEnd(0, THROWN, 3, 3, 1);
        dueLook(1, 10, 0);
        dueEnd(1, WHOLE, 2, 2, 2);
        // in one of these two rows INPUT 1 tells what was read, too
        dueLook(2, 10, 1);
        dueEnd(2, WHOLE, 2, 2, 2);
        on("THE LOOK: a READ into another VARIABLE leaves it");
        for (int n = 2; n < 4; n++) {
            twoInputs();
            x.step(READ, 0, 0, n, 0);
            x.step(SAME, 1, 1, 0, 0);
            due(5, x.ends());
            dueLook(1, 10, 0, 0);
            dueLook(4, 10, 1, 1);
        }
        on("THE LOOK: a READ that is left out leaves it");
        twoInputs();
        x.step(SAME, 2, 3, 0, 1);
        x.step(READ, 0, 0, 1, 0);
        x.step(SAME, 1, 1, 0, 0);
        due(2, x.ends());
        dueLook(1, 10);
    }

    private void whatIsLeftOutIsNotLookedAt() {
        on("THE LOOK: STEPS that are left out look at nothing");
        chain(2);
        x.step(SAME, 2, 3, 0, 2);
        x.step(READ, 0, 0, 2, 0);
        x.step(SAME, 0, 0, 0, 0);
        due(1, x.ends());
        dueLook(0);
        dueEnd(0, WHOLE, 6, 6, 1);
        on("THE LOOK: VARIABLES 2 and 3, and those without INPUT, have no SLOT");
        chain(2);
        x.step(SAME, 2, 3, 0, 0);
        x.step(SAME, 1, 2, 0, 0);
        due(1, x.ends());
        dueLook(0);
    }

    private void objectsAreNumberedByTheLook() {
        on("THE LOOK: objects are numbered as THE LOOK meets them");
        twoInputs();
        x.bound(3);
        x.step(READ, 1, 0, 2, 0);
        x.step(SAME, 0, 2, 0, 0);
        dueLookOfRow(new int[] {10, 10, 0, 10, 0}, 10, 10, 10);
        dueLookOfRow(new int[] {10, 10, 0, 1}, 10, 10, 2);
        dueLookOfRow(new int[] {10, 10, 0, 2}, 10, 1, 10);
        dueLookOfRow(new int[] {10, 1, 1}, 10, 1, 1);
        dueLookOfRow(new int[] {10, 1, 10, 0}, 10, 10, 1);
        dueLookOfRow(new int[] {0, 10, 0}, 10, 0, 0);
        dueLookOfRow(new int[] {10, 0, 0}, 0);
        on("THE LOOK: a NUMBER is what it is, and numbers no object");
        anew();
        x.kind(NONE);
        x.field(0, 1, 3);
        x.field(0, 0, 0);
        x.input(0);
        x.bound(2);
        x.step(TEST, 0, 0, 0, 0);
        x.step(READ, 0, 1, 0, 0);
        x.step(READ, 0, 1, 0, 0);
        dueLookOfRow(new int[] {10, 3, 10, 2, 2}, 10, 3, 10, 2);
        dueLookOfRow(new int[] {10, 3, 10, 2, 1}, 10, 3, 10, 1);
        dueLookOfRow(new int[] {10, 1, 1}, 10, 1, 1);
    }

    private void dueLookOfRow(int[] row, int... look) {
        puts(row);
        dueLook(x.endOf(x.rank()), look);
    }

    /** Four objects of kind 2, each told by FIELD 2 of another, both inputs the first of them. */
    private void longLooks() {
        anew();
        for (int k = 0; k < 4; k++) {
            x.kind(NONE);
        }
        for (int f = 0; f < 4; f++) {
            x.field(2, 0, f);
        }
        x.input(2);
        x.input(2);
        x.bound(4);
        x.step(READ, 1, 3, 3, 0);
        for (int n = 1; n < 16; n++) {
            int f = new int[] {3, 0, 1, 2}[n % 4];
            x.step(READ, 0, f, f == 2 ? 0 : 3, 0);
        }
    }

    private void theLongestLook() {
        on("THE LOOK: 16 STEPS look at 2 INPUTS and 16 FIELDS at most");
        longLooks();
        int[] row = {12, 1, 0, 0, 12, 0, 0, 0, 12, 0, 0, 0, 12, 0, 0, 0, 0, 0};
        int[] look = {12, 0, 1, 0, 0, 12, 0, 0, 0, 12, 0, 0, 0, 12, 0, 0, 0, 0};
        puts(row);
        int first = x.endOf(x.rank());
        for (int c = 0; c <= 4; c++) {
            row[16] = c;
            look[17] = c;
            puts(row);
            due(first + c, x.endOf(x.rank()));
            dueLook(first + c, look);
            dueEnd(first + c, WHOLE, 1, 1, 16);
        }
    }

    private boolean isBefore(int k, int other) {
        for (int i = 0; i < 18; i++) {
            int one = x.look(k, i);
            int two = x.look(other, i);
            if (one != two) {
                return one != NONE && one < two;
            }
        }
        return false;
    }

    private void endsStandInOrder() {
        on("ENDS stand in ORDER of their LOOKS; HEAPS with one LOOK have one END");
        twoRefs(2);
        x.rule(2, 0, 0, 1);
        x.step(READ, 0, 1, 2, 0);
        x.step(READ, 2, 0, 3, 0);
        int ends = x.ends();
        int all = 0;
        int kept = 0;
        for (int k = 0; k < ends; k++) {
            all += x.end(k, 2);
            kept += x.end(k, 3);
            due(1, k == 0 || isBefore(k - 1, k) ? 1 : 0);
        }
        due(50, all);
        due(12, kept);
        // null; b null; b itself and a null, itself, new; b new, or a new and b that one: c
        due(1 + 1 + 3 + 3, ends);
    }

    public static void main(String[] args) {
        PlayBoundariesTest test = new PlayBoundariesTest();
        test.stepsAreSixteenAtMost();
        test.noStepsAreWhole();
        test.theSixteenthStepMayEndThePlay();
        test.variablesWithoutInputAreNull();
        test.readGoesIntoAnyVariable();
        test.testHitsOneNumber();
        test.theNextStepsAreLeftOut();
        test.sameOfNullAndObjects();
        test.nullIsThrown();
        test.aFieldThatThereIsNotIsWrong();
        test.aFieldOfTheOtherSortIsWrong();
        test.theKindOfTheObjectCounts();
        test.ofVFirstOfFThen();
        test.aSlotIsToldOnce();
        test.readChangesAVariable();
        test.whatIsLeftOutIsNotLookedAt();
        test.objectsAreNumberedByTheLook();
        test.theLongestLook();
        test.endsStandInOrder();
        test.checks.finish("PlayBoundariesTest");
    }
}
