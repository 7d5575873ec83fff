/** The boundary cases of the document's parts 1 and 2, kinds and rows: a test for each sentence. */
public final class ShapeBoundariesTest extends Bench {
    private void kindsAreFourAtMost() {
        on("part 1: kinds 0, 1, .. (4 at most)");
        for (int k = 0; k < 4; k++) {
            due(k, x.about(0));
            due(k, x.kind(NONE));
        }
        due(ROOM, x.kind(NONE));
        due(ROOM, x.kind(0));
        due(ROOM, x.kind(3));
        due(4, x.about(0));
        due(OUTSIDE, x.about(14));
    }

    private void superHasALesserNumber() {
        on("part 1: a SUPER, a kind with a lesser number");
        due(UNKNOWN, x.kind(0));
        due(0, x.kind(NONE));
        // the new kind itself, and the one behind it
        due(UNKNOWN, x.kind(1));
        due(UNKNOWN, x.kind(2));
        due(1, x.kind(0));
        due(2, x.kind(1));
        due(UNKNOWN, x.kind(3));
        due(3, x.kind(2));
        for (int above : new int[] {-2, LEAST, LEAST + 1, MOST, UNKNOWN, 32, 64}) {
            due(UNKNOWN, x.kind(above));
        }
    }

    private void underGoesUpAllSupers() {
        on("part 1: a kind is UNDER itself, its SUPER, the SUPER of that, and so on");
        for (int top = 0; top < 4; top++) {
            anew();
            for (int k = 0; k < 4; k++) {
                x.kind(k - 1);
            }
            x.input(top);
            due(1 + 4 - top, x.many());
            dueRank(top > 0 ? -10 : 1, 10);
            dueRank(4 - top, 13);
            dueRank(-10, 14);
        }
        on("part 1: a kind is not UNDER its sibling, nor under a kind beside");
        x.kind(NONE);
        x.kind(0);
        x.kind(0);
        x.kind(NONE);
        x.input(1);
        due(2, x.many());
        dueRow(1, 11);
        x.input(3);
        due(2 * 2, x.many());
        dueRow(3, 11, 13);
    }

    private void fieldsAreThoseOfTheSuperFirst() {
        on("part 1: FIELDS: those of its SUPER, then its own, in order");
        x.kind(NONE);
        due(0, x.field(0, 1, 1));
        x.kind(0);
        due(1, x.field(1, 1, 2));
        x.kind(1);
        due(2, x.field(2, 1, 3));
        x.input(2);
        x.bound(1);
        due(1 + 2 * 3 * 4, x.many());
        dueRow(24, 12, 1, 2, 3);
        dueRow(1, 12, 0, 0, 0);
    }

    private void fieldsAreFourAtMost() {
        on("part 1: FIELDS, 4 at most: own ones");
        x.kind(NONE);
        due(0, x.about(10));
        for (int f = 0; f < 4; f++) {
            due(f, x.field(0, f % 2, f % 2));
        }
        due(ROOM, x.field(0, 0, 0));
        due(ROOM, x.field(0, 1, 1));
        due(4, x.about(10));
        on("part 1: FIELDS, 4 at most: with those of all SUPERS");
        x.kind(NONE);
        x.field(0, 1, 1);
        x.kind(0);
        x.field(1, 1, 1);
        x.field(1, 1, 1);
        x.kind(1);
        due(3, x.field(2, 1, 1));
        due(ROOM, x.field(2, 1, 1));
        x.kind(2);
        due(4, x.about(13));
        due(ROOM, x.field(3, 0, 0));
        due(1, x.about(10));
        due(3, x.about(11));
    }

    private void aNumberGoesUpToThree() {
        on("part 1: a NUMBER 0 .. n (n 1 .. 3)");
        for (int n = 1; n <= 3; n++) {
            anew();
            x.kind(NONE);
            x.input(0);
            due(0, x.field(0, 1, n));
            due(1 + n + 1, x.many());
            dueRow(1, 10, 0);
            dueRow(1 + n, 10, n);
            dueRank(-11, 10, n + 1);
            dueRank(-11, 10, -1);
        }
        for (int n : new int[] {0, 4, -1, LEAST, MOST}) {
            due(OUTSIDE, x.field(0, 1, n));
        }
        due(1, x.about(10));
    }

    private void inputsAreTwoAtMost() {
        on("part 1: INPUTS 0, 1 (2 at most)");
        x.kind(NONE);
        x.kind(NONE);
        due(0, x.input(1));
        due(1, x.input(0));
        due(ROOM, x.input(0));
        due(ROOM, x.input(1));
        due(2, x.about(1));
        due(4, x.many());
        dueRow(3, 11, 10);
    }

    private void boundIsOneToFive() {
        on("part 1: BOUND is 1 .. 5, 3 at first");
        due(3, x.about(2));
        due(OUTSIDE, x.bound(0));
        due(OUTSIDE, x.bound(6));
        due(3, x.bound(1));
        due(1, x.bound(5));
        due(OUTSIDE, x.bound(-5));
        due(OUTSIDE, x.bound(LEAST));
        due(OUTSIDE, x.bound(MOST));
        due(5, x.about(2));
    }

    private void withoutSlotsThereIsTheEmptyRow() {
        on("part 2: no INPUTS: one row, without choices");
        due(1, x.many());
        x.kind(NONE);
        x.field(0, 0, 0);
        x.bound(5);
        due(1, x.many());
        due(1, x.kept());
        due(NONE, x.choice(0, 0));
        due(UNKNOWN, x.choice(1, 0));
        due(UNKNOWN, x.object(0, 0, 0));
        dueRank(0);
        dueRank(-10, 0);
        dueRank(-10, 10);
    }

    private void slotsStandByObjectsAsTheyAreNumbered() {
        on("part 2: first the INPUTS; then, object by object, as they are numbered, its FIELDS");
        x.kind(NONE);
        x.kind(NONE);
        x.field(0, 0, 1);
        x.field(0, 1, 1);
        x.field(1, 1, 2);
        x.input(0);
        x.input(0);
        x.bound(4);
        int last = x.many() - 1;
        // objects 0 and 1 of kind 0; then 2, met by object 0, and 3, met by object 1
        dueRow(last, 10, 10, 11, 1, 11, 1, 2, 2);
        due(0, x.object(last, 1, 0));
        due(2, x.object(last, 0, 1));
        due(3, x.object(last, 1, 1));
        due(1, x.object(last, 3, 0));
        due(UNKNOWN, x.object(last, 4, 0));
        dueRow(last - 1, 10, 10, 11, 1, 11, 1, 2, 1);
        dueRow(last - 3, 10, 10, 11, 1, 11, 1, 1, 2);
    }

    private void anObjectMustHaveBeenMet() {
        on("part 2: 1 + j the object j, that was met");
        chain(5);
        dueRank(-10, 1);
        dueRank(2, 10, 1);
        dueRank(-11, 10, 2);
        dueRank(5, 10, 10, 2);
        dueRank(-12, 10, 10, 3);
        dueRank(20, 10, 10, 10, 10, 10, 5);
        dueRank(-15, 10, 10, 10, 10, 10, 6);
        dueRank(-15, 10, 10, 10, 10, 10, 9);
        dueRank(-10, -1);
        dueRank(-10, 9);
        on("part 2: 1 + j the object j, that is of a kind UNDER t");
        family(3);
        x.input(1);
        dueRank(-11, 10, 1, 0);
        puts(11, 1, 0);
        dueRow(x.rank(), 11, 1, 0);
        // object 1 is of kind 1, object 0 is not
        puts(10, 11, 2, 2);
        dueRow(x.rank(), 10, 11, 2, 2);
        x.kind(1);
        dueRank(-11, 10, 1, 0);
        puts(12, 1, 1);
        dueRow(x.rank(), 12, 1, 1);
    }

    private void aNewObjectIsOfAKindThatThereIs() {
        on("part 2: 10 + k a new object of kind k, UNDER t");
        family(2);
        dueRank(-10, 9);
        dueRank(1, 10, 0);
        dueRank(9, 11, 0);
        dueRank(-10, 12, 0);
        dueRank(-10, 13, 0);
        dueRank(-10, MOST);
        dueRank(-10, LEAST);
        // would be kind 0 and 1 if a sum wrapped around
        dueRank(-10, LEAST + 10);
        dueRank(-10, LEAST + 1);
        x.kind(NONE);
        dueRank(-10, 12, 0);
        dueRank(9, 11, 0);
    }

    private void fewerThanBoundWereMet() {
        on("part 2: a new object, if fewer than BOUND were met");
        for (int n = 1; n <= 5; n++) {
            chain(n);
            x.empty();
            for (int met = 0; met < n; met++) {
                due(-10 - met, x.rank());
                x.put(10);
            }
            due(-10 - n, x.rank());
            x.put(10);
            due(-10 - n, x.rank());
            x.empty();
            for (int met = 0; met < n; met++) {
                x.put(10);
            }
            x.put(n);
            due(x.many() - 1, x.rank());
        }
        on("part 2: BOUND counts the objects of all kinds, and those without FIELDS");
        pair(1);
        due(4, x.many());
        dueRow(3, 10, 1);
        dueRank(-11, 10, 10);
        x.bound(2);
        due(5, x.many());
        dueRank(4, 10, 10);
    }

    private void theLongestRow() {
        on("part 2: a row ends as there are no SLOTS any more: after 22 at most");
        longRows();
        x.put(12);
        x.put(0);
        for (int object = 0; object < 4; object++) {
            x.put(0);
            x.put(0);
            x.put(12);
            due(-10 - x.about(5), x.rank());
            x.put(0);
        }
        x.put(0);
        x.put(0);
        due(-10 - 20, x.rank());
        x.put(0);
        due(-10 - 21, x.rank());
        due(22, x.put(0));
        int i = x.rank();
        due(0, x.choice(i, 21));
        due(NONE, x.choice(i, 22));
        due(12, x.choice(i, 16));
        due(NONE, x.object(i, 4, 3));
        due(4, x.object(i, 3, 3));
        // the rows behind it tell object 0, 1, .. in the last SLOT but one
        for (int j = 0; j < 5; j++) {
            due(1 + j, x.choice(i + 1 + j, 20));
            due(0, x.choice(i + 1 + j, 21));
            due(NONE, x.choice(i + 1 + j, 22));
            due(j, x.object(i + 1 + j, 4, 3));
        }
        due(UNKNOWN, x.object(i, 5, 0));
        due(23, x.put(0));
        due(-10 - 22, x.rank());
    }

    private void longRowsHaveRanksOfTheirOwn() {
        on("part 2: rows that differ in the last choices alone");
        longRows();
        int[] row = {12, 0, 0, 0, 12, 0, 0, 0, 12, 0, 0, 0, 12, 0, 0, 0, 12, 0, 0, 0, 0, 0};
        puts(row);
        int first = x.rank();
        for (int j = 1; j <= 5; j++) {
            row[20] = j;
            dueRank(first + j, row);
        }
        row[20] = 6;
        dueRank(-30, row);
        row[20] = 12;
        dueRank(-30, row);
        row[20] = 0;
        row[21] = 1;
        dueRank(-31, row);
    }

    private boolean isBefore(int i, int j) {
        for (int k = 0; k < 22; k++) {
            int one = x.choice(i, k);
            int other = x.choice(j, k);
            if (one != other) {
                return one != NONE && one < other;
            }
        }
        return false;
    }

    private void allRowsStandInOrder() {
        on("part 2: of two, at the first choice that differs, the lesser one first; each once");
        twoRefs(2);
        due(50, x.many());
        for (int i = 0; i + 1 < 50; i++) {
            due(1, isBefore(i, i + 1) ? 1 : 0);
        }
        on("part 2: 10 + k comes behind 1 + j, and by kinds");
        family(1);
        dueRow(0, 0);
        dueRow(1, 10, 0);
        dueRow(2, 10, 1);
        dueRow(3, 11, 0);
        dueRow(4, 11, 1);
        due(5, x.many());
    }

    private void fourThousandRowsCanBeTold() {
        on("part 2: MANY: 4000 can be told");
        fourThousand();
        due(4000, x.many());
        due(4000, x.kept());
        due(0, x.choice(0, 0));
        due(11, x.choice(3999, 0));
        due(UNKNOWN, x.choice(4000, 0));
        due(3, x.object(3999, 1, 0));
        due(1, x.object(3999, 1, 4));
        due(-10, x.rank());
        due(1, x.ends());
        due(4000, x.end(0, 2));
        due(4000, x.end(0, 3));
        due(NONE, x.look(0, 0));
        due(0, x.endOf(3999));
        due(UNKNOWN, x.endOf(4000));
        // null, or two kinds with a NUMBER 0 .. 2; and behind each of these the same once more
        x.step(1, 0, 0, 3, 0);
        x.step(1, 1, 0, 3, 0);
        due(1 + 6 * (1 + 6), x.ends());
    }

    private void moreThanFourThousandAreRoom() {
        on("part 2: if these are more than 4000, whatever asks for them is ROOM");
        oneTooMany();
        dueRoomForRows();
        on("part 2: far more than 4000");
        farTooMany();
        due(ROOM, x.many());
        due(ROOM, x.ends());
        due(ROOM, x.rank());
        due(5, x.bound(1));
        // with one object: its four REFS are null or tell it; so does input 1
        due(1 + 4 * 2 * 16 + 4 * 16, x.many());
    }

    private void farTooMany() {
        x.kind(NONE);
        for (int f = 0; f < 4; f++) {
            x.field(0, 0, 0);
        }
        x.kind(0);
        x.kind(1);
        x.kind(2);
        x.input(0);
        x.input(0);
        x.bound(5);
    }

    private void whatAsksForNoRowsIsNotRoom() {
        on("part 2: what does not ask for rows answers where there are too many");
        x.kind(NONE);
        x.field(0, 0, 0);
        x.field(0, 0, 0);
        x.field(0, 1, 3);
        x.input(0);
        x.bound(5);
        due(ROOM, x.many());
        due(1, x.put(99));
        due(1, x.empty());
        due(0, x.rule(0, 0, 0, 0));
        due(1, x.clear());
        due(0, x.step(0, 0, 0, 0, 0));
        due(1, x.erase());
        due(1, x.about(0));
        due(1, x.input(0));
        due(3, x.field(0, 0, 0));
        due(1, x.kind(0));
        due(5, x.bound(5));
        due(ROOM, x.many());
    }

    private void allRowsCountNotTheKeptOnes() {
        on("part 2: ROOM goes by ALL ROWS, however few are KEPT");
        chain(5);
        x.field(0, 1, 3);
        x.rule(1, 0, 0, NONE);
        due(ROOM, x.many());
        due(ROOM, x.kept());
        due(5, x.bound(4));
        // 1, and 4, 4 * 4, .. for each line of objects, with as many ends as the last REF has
        due(1 + 2 * 4 + 3 * 16 + 4 * 64 + 5 * 256, x.many());
        due(1 + 4 + 16 + 64 + 256, x.kept());
        due(4, x.bound(5));
        due(ROOM, x.kept());
        due(ROOM, x.choice(0, 0));
        due(5, x.bound(1));
        due(9, x.many());
        due(5, x.kept());
    }

    public static void main(String[] args) {
        ShapeBoundariesTest test = new ShapeBoundariesTest();
        test.kindsAreFourAtMost();
        test.superHasALesserNumber();
        test.underGoesUpAllSupers();
        test.fieldsAreThoseOfTheSuperFirst();
        test.fieldsAreFourAtMost();
        test.aNumberGoesUpToThree();
        test.inputsAreTwoAtMost();
        test.boundIsOneToFive();
        test.withoutSlotsThereIsTheEmptyRow();
        test.slotsStandByObjectsAsTheyAreNumbered();
        test.anObjectMustHaveBeenMet();
        test.aNewObjectIsOfAKindThatThereIs();
        test.fewerThanBoundWereMet();
        test.theLongestRow();
        test.longRowsHaveRanksOfTheirOwn();
        test.allRowsStandInOrder();
        test.fourThousandRowsCanBeTold();
        test.moreThanFourThousandAreRoom();
        test.whatAsksForNoRowsIsNotRoom();
        test.allRowsCountNotTheKeptOnes();
        test.checks.finish("ShapeBoundariesTest");
    }
}
