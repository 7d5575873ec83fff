/** The boundary cases of the document's part 3, rules: a test for each sentence. */
public final class RuleBoundariesTest extends Bench {
    private void rulesAreSixAtMost() {
        on("part 3: RULES 0, 1, .. (6 at most)");
        chain(2);
        for (int n = 0; n < 6; n++) {
            due(n, x.about(3));
            due(n, x.rule(n % 2 == 0 ? 6 : 1, 0, 0, NONE));
        }
        due(ROOM, x.rule(6, 0, 0, 0));
        due(ROOM, x.rule(0, 0, 0, 0));
        due(6, x.about(3));
        // what was refused does not cut: with rule 0 there would be one row
        due(3, x.kept());
        due(6, x.clear());
        due(0, x.rule(0, 0, 0, 0));
        due(4, x.kept());
    }

    private void xIsUnderTheKindOfTheRule() {
        on("part 3: x is any object of a kind UNDER that");
        x.kind(NONE);
        x.field(0, 0, 0);
        x.kind(0);
        x.kind(1);
        x.input(0);
        x.bound(1);
        due(7, x.many());
        due(7 - 3, keptBy(0, 0, 0, 0));
        due(7 - 2, keptBy(0, 1, 0, 0));
        dueRow(1, 10, 0);
        dueRow(3, 11, 1);
        due(7 - 1, keptBy(0, 2, 0, 0));
        dueRow(5, 12, 1);
        on("part 3: a kind that came behind the RULE and is UNDER its kind is cut, too");
        chain(1);
        due(2, keptBy(0, 0, 0, 0));
        x.kind(0);
        due(3, x.kept());
        dueRow(2, 11, 1);
    }

    private void noObjectsHoldToEveryRule() {
        on("part 3: a HEAP without objects holds to all RULES");
        numberedChain(2);
        x.input(0);
        for (int sort = 0; sort <= 6; sort++) {
            due(1, keptBy(sort, 0, 0, sort == 4 || sort == 5 ? 1 : 0) > 0 ? 1 : 0);
            dueRow(0, 0, 0);
        }
        // a REF that is never null and leads in no circle needs ever more objects
        x.clear();
        x.rule(0, 0, 0, 0);
        x.rule(1, 0, 0, NONE);
        due(1, x.kept());
        dueRow(0, 0, 0);
        due(UNKNOWN, x.choice(1, 0));
        due(UNKNOWN, x.object(0, 0, 0));
    }

    private void notNull() {
        on("part 3, SORT 0: f of x is not null");
        chain(1);
        due(2, keptBy(0, 0, 0, LEAST));
        dueRow(0, 0);
        dueRow(1, 10, 1);
        twoRefs(1);
        due(3, keptBy(0, 0, 0, 0));
        dueRow(1, 10, 1, 0);
        due(3, keptBy(0, 0, 1, 0));
        dueRow(1, 10, 0, 1);
    }

    private void circlesOfOneToFive() {
        on("part 3, SORT 1: by one or more REFS");
        chain(5);
        due(21, x.many());
        due(6, keptBy(1, 0, 0, NONE));
        for (int n = 0; n <= 5; n++) {
            due(n == 0 ? 0 : 10, x.choice(n, 0));
            due(0, x.choice(n, n));
            due(NONE, x.choice(n, n + 1));
        }
        // a circle of one, two, .. five, that goes through the last object
        dueRank(NONE, 10, 1);
        dueRank(NONE, 10, 10, 1);
        dueRank(NONE, 10, 10, 10, 1);
        dueRank(NONE, 10, 10, 10, 10, 1);
        dueRank(NONE, 10, 10, 10, 10, 10, 1);
        dueRank(NONE, 10, 10, 10, 10, 10, 5);
        dueRank(5, 10, 10, 10, 10, 10, 0);
    }

    private void circlesByTwoRefs() {
        on("part 3, SORT 1: REFS f or g (g a REF, too, or NONE; as NONE when it is f)");
        twoRefs(2);
        due(50, x.many());
        due(18, keptBy(1, 0, 0, NONE));
        due(18, keptBy(1, 0, 0, 0));
        due(18, keptBy(1, 0, 1, NONE));
        due(18, keptBy(1, 0, 1, 1));
        due(5, keptBy(1, 0, 0, 1));
        due(5, keptBy(1, 0, 1, 0));
        // f of object 0 and then g of object 1: a circle by both alone
        x.clear();
        x.rule(1, 0, 0, NONE);
        x.rule(1, 0, 1, NONE);
        puts(10, 10, 0, 0, 1);
        due(1, x.rank() >= 0 ? 1 : 0);
        x.rule(1, 0, 0, 1);
        due(NONE, x.rank());
        // two ways to one object are no circle
        dueRank(4, 10, 10, 2, 0, 0);
    }

    private void circlesOfSuchXAlone() {
        on("part 3, SORT 1: REFS of such x");
        family(2);
        due(17 - 4, keptBy(1, 1, 0, NONE));
        dueRank(NONE, 11, 1);
        dueRank(NONE, 11, 11, 1);
        dueRank(NONE, 10, 11, 2);
        // the way goes through the REF of an object of kind 0
        puts(11, 10, 1);
        dueRow(x.rank(), 11, 10, 1);
        puts(10, 11, 1);
        dueRow(x.rank(), 10, 11, 1);
        dueRank(2, 10, 1);
    }

    private void noTwoRefsTellOne() {
        on("part 3, SORT 2: no two of the REFS f and g of such x (both of one x, too)");
        twoRefs(2);
        due(12, keptBy(2, 0, 0, 1));
        due(12, keptBy(2, 0, 1, 0));
        dueRank(NONE, 10, 1, 1);
        dueRank(NONE, 10, 10, 2, 0, 0);
        dueRank(NONE, 10, 10, 0, 2, 0);
        dueRank(NONE, 10, 10, 0, 0, 2);
        dueRank(NONE, 10, 0, 10, 1, 1);
        // null is no object
        dueRank(1, 10, 0, 0);
        due(38, keptBy(2, 0, 0, NONE));
        due(38, keptBy(2, 0, 0, 0));
        due(38, keptBy(2, 0, 1, NONE));
        on("part 3, SORT 2: INPUTS are not among the REFS f and g");
        chain(1);
        due(3, keptBy(2, 0, 0, NONE));
        x.input(0);
        puts(10, 1, 1);
        dueRow(x.rank(), 10, 1, 1);
        on("part 3, SORT 2: REFS of objects that are not such x do not count");
        family(2);
        due(17 - 1, keptBy(2, 1, 0, NONE));
        dueRank(NONE, 11, 11, 2);
        puts(10, 11, 2);
        dueRow(x.rank(), 10, 11, 2);
        puts(11, 10, 2);
        dueRow(x.rank(), 11, 10, 2);
    }

    private void thereAndBack() {
        on("part 3, SORT 3: where f of x is an object y, its g is x");
        twoRefs(2);
        due(15, keptBy(3, 0, 0, 1));
        dueRank(NONE, 10, 1, 0);
        dueRank(NONE, 10, 10, 0, 0, 0);
        dueRank(NONE, 10, 10, 0, 0, 2);
        // f is null, whatever g is; x itself, there and back
        dueRank(1, 10, 0, 0);
        dueRank(2, 10, 0, 1);
        puts(10, 1, 1);
        dueRow(x.rank(), 10, 1, 1);
        puts(10, 10, 0, 0, 1);
        dueRow(x.rank(), 10, 10, 0, 0, 1);
        due(26, keptBy(3, 0, 0, 0));
        due(26, keptBy(3, 0, 1, 1));
        on("part 3, SORT 3: y is of a kind UNDER that");
        family(2);
        due(11, keptBy(3, 1, 0, 0));
        dueRank(NONE, 11, 10, 1);
        dueRank(NONE, 10, 11, 1);
        dueRank(-10, 12);
        puts(11, 11, 1);
        dueRow(x.rank(), 11, 11, 1);
    }

    private void notAbove() {
        on("part 3, SORT 4: the NUMBER g of x is not above that of y");
        chain(2);
        x.field(0, 1, 3);
        due(57, x.many());
        due(33, keptBy(4, 0, 0, 1));
        for (int n = 0; n <= 3; n++) {
            for (int m = 0; m <= 3; m++) {
                puts(10, 10, n, 0, m);
                due(n <= m ? 1 : 0, x.rank() >= 0 ? 1 : 0);
            }
            // of itself it is never above; and null has none
            puts(10, 1, n);
            due(1, x.rank() >= 0 ? 1 : 0);
            puts(10, 0, n);
            due(1, x.rank() >= 0 ? 1 : 0);
        }
        on("part 3, SORT 4: an object y of a kind UNDER that");
        x.kind(NONE);
        x.kind(0);
        x.field(1, 0, 0);
        x.field(1, 1, 1);
        x.input(1);
        x.bound(2);
        keptBy(4, 1, 0, 1);
        // object 1 is of kind 0, without a NUMBER
        puts(11, 10, 1);
        dueRow(x.rank(), 11, 10, 1);
        dueRank(NONE, 11, 11, 1, 0, 0);
    }

    private void nullJustAtZero() {
        on("part 3, SORT 5: f of x is null just when its NUMBER g is 0");
        chain(1);
        x.field(0, 1, 3);
        due(9, x.many());
        due(5, keptBy(5, 0, 0, 1));
        dueRank(1, 10, 0, 0);
        dueRank(NONE, 10, 0, 1);
        dueRank(NONE, 10, 0, 3);
        dueRank(NONE, 10, 1, 0);
        dueRank(2, 10, 1, 1);
        dueRank(4, 10, 1, 3);
    }

    private void inputsApart() {
        on("part 3, SORT 6: the INPUTS, if there are two");
        due(0, x.rule(6, 0, 0, 0));
        due(1, x.kept());
        x.kind(NONE);
        x.input(0);
        due(2, x.kept());
        x.input(0);
        due(4, x.kept());
        x.bound(1);
        due(3, x.kept());
        on("part 3, SORT 6: do not tell one object");
        pair(1);
        x.rule(6, 0, 0, 0);
        due(3, x.kept());
        dueRow(0, 0, 0);
        dueRow(1, 0, 10);
        dueRow(2, 10, 0);
        dueRank(NONE, 10, 1);
        on("part 3, SORT 6: without kind, f, g");
        due(0, x.rule(6, LEAST, LEAST, LEAST));
        due(1, x.rule(6, MOST, MOST, MOST));
        due(2, x.rule(6, NONE, NONE, NONE));
        due(3, x.about(3));
    }

    private void keptHoldToAllRules() {
        on("part 3: KEPT are the rows whose HEAPS hold to all RULES, in ORDER, 0, 1, ..");
        twoRefs(2);
        x.rule(3, 0, 0, 1);
        due(15, x.kept());
        x.rule(2, 0, 0, 1);
        // null; of one object (0 0), (0 1); a = 0, b new: (0 0), (0 1), (1 0); a new: b 0, (0 1)
        due(1 + 2 + 3 + 1, x.kept());
        dueRow(0, 0);
        dueRow(1, 10, 0, 0);
        dueRow(2, 10, 0, 1);
        dueRow(3, 10, 0, 10, 0, 0);
        dueRow(4, 10, 0, 10, 0, 1);
        dueRow(5, 10, 0, 10, 1, 0);
        dueRow(6, 10, 10, 0, 0, 1);
        due(UNKNOWN, x.choice(7, 0));
        // a RULE once more cuts nothing more
        x.rule(3, 0, 0, 1);
        due(7, x.kept());
        due(50, x.many());
    }

    public static void main(String[] args) {
        RuleBoundariesTest test = new RuleBoundariesTest();
        test.rulesAreSixAtMost();
        test.xIsUnderTheKindOfTheRule();
        test.noObjectsHoldToEveryRule();
        test.notNull();
        test.circlesOfOneToFive();
        test.circlesByTwoRefs();
        test.circlesOfSuchXAlone();
        test.noTwoRefsTellOne();
        test.thereAndBack();
        test.notAbove();
        test.nullJustAtZero();
        test.inputsApart();
        test.keptHoldToAllRules();
        test.checks.finish("RuleBoundariesTest");
    }
}
