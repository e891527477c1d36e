/** Promises 10 to 14 and 16: rows, cell, same, steps, budget, node. */
public final class AnswersTest {
    private static final String TEN = "1|1|1|1|1|1|1|1|1|1";

    private static void testRows(Due due) {
        QueryLoft loft = new QueryLoft();
        Due.tableOf(loft, 1, TEN);
        Due.tableOf(loft, 1, "");
        int ten = loft.scan(0);
        int empty = loft.scan(1);
        int square = loft.join(ten, ten, 0, 0, 0);
        int two = loft.bag(square, square, 0);
        int first = loft.filter(two, 0, 0, 1);
        int more = loft.join(ten, two, 0, 0, 0);
        int grouped = loft.group(more, 0, 0, 0);
        int once = loft.bag(two, two, 3);
        int three = loft.bag(two, square, 0);
        due.is("rows of a scan", 10, () -> loft.rows(ten));
        due.is("rows of nothing", 0, () -> loft.rows(empty));
        due.is("rows of a join", 100, () -> loft.rows(square));
        due.is("200 rows", 200, () -> loft.rows(two));
        due.is("200 rows of a filter", 200, () -> loft.rows(first));
        due.is("once out of 400 rows", 1, () -> loft.rows(once));
        due.refuses("2000 rows of a join", Due.STATE, () -> loft.rows(more));
        due.refuses("300 rows of a bag", Due.STATE, () -> loft.rows(three));
        due.refuses("a group of too many", Due.STATE, () -> loft.rows(grouped));
        due.refuses("no node -1", Due.BOUNDS, () -> loft.rows(-1));
        due.refuses("no node 9", Due.BOUNDS, () -> loft.rows(9));
        due.is("take a row", 9, () -> loft.take(0, 0));
        due.is("fewer rows then", 81, () -> loft.rows(square));
        due.is("fewer rows of all above", 162, () -> loft.rows(two));
        due.refuses("still too many", Due.STATE, () -> loft.rows(three));
        due.is("take another one", 8, () -> loft.take(0, 0));
        due.is("no longer too many", 192, () -> loft.rows(three));
        due.is("add to the other table", 1, () -> loft.add(1, 5, 0, 0));
        due.is("the scan of that", 1, () -> loft.rows(empty));
    }

    /** One row more than 200, for each kind that can have so many. */
    private static void testTooManyRows(Due due) {
        QueryLoft loft = new QueryLoft();
        Due.tableOf(loft, 1, TEN);
        Due.tableOf(loft, 1, "2");
        int ten = loft.scan(0);
        int one = loft.scan(1);
        int forty = loft.bag(loft.bag(ten, ten, 0), loft.bag(ten, ten, 0), 0);
        int eighty = loft.bag(forty, forty, 0);
        int two = loft.bag(loft.bag(eighty, eighty, 0), forty, 0);
        int left = loft.join(two, one, 0, 0, 1);
        due.is("LEFT with 200 rows", 200, () -> loft.rows(left));
        int over = loft.bag(two, one, 0);
        due.refuses("201 rows of ALL", Due.STATE, () -> loft.rows(over));
        due.refuses("201 rows beneath a filter", Due.STATE, () -> loft.rows(loft.filter(over, 0, 0, 2)));
        due.refuses("201 rows in the second part", Due.STATE, () -> loft.rows(loft.bag(ten, over, 1)));
        due.refuses("201 rows beneath BOTH", Due.STATE, () -> loft.rows(loft.bag(over, ten, 2)));
        due.refuses("201 rows beneath SEMI", Due.STATE, () -> loft.rows(loft.join(one, over, 0, 0, 2)));
        due.refuses("201 rows in the first part", Due.STATE, () -> loft.rows(loft.join(over, one, 0, 0, 3)));
        due.is("ONCE of 201 rows that are not beneath", 2, () -> loft.rows(loft.bag(two, one, 3)));
        loft.add(1, 1, 0, 0);
        due.is("LEFT with another row that meets", 200, () -> loft.rows(left));
        loft.add(1, 1, 0, 0);
        due.refuses("LEFT with 400 rows", Due.STATE, () -> loft.rows(left));
    }

    private static void testCell(Due due) {
        QueryLoft loft = new QueryLoft();
        Due.tableOf(loft, 2, "1 -|3 4");
        Due.tableOf(loft, 1, TEN);
        int scan = loft.scan(0);
        int ten = loft.scan(1);
        int square = loft.join(ten, ten, 0, 0, 0);
        int much = loft.join(square, ten, 0, 0, 0);
        due.is("the first cell", 1, () -> loft.cell(scan, 0, 0));
        due.is("an unknown cell", -1000, () -> loft.cell(scan, 0, 1));
        due.is("the last cell", 4, () -> loft.cell(scan, 1, 1));
        due.refuses("no node -1", Due.BOUNDS, () -> loft.cell(-1, 0, 0));
        due.refuses("no node 4", Due.BOUNDS, () -> loft.cell(4, 0, 0));
        due.refuses("no column -1", Due.BOUNDS, () -> loft.cell(scan, 0, -1));
        due.refuses("no column 2", Due.BOUNDS, () -> loft.cell(scan, 0, 2));
        due.refuses("no row -1", Due.BOUNDS, () -> loft.cell(scan, -1, 0));
        due.refuses("no row 2", Due.BOUNDS, () -> loft.cell(scan, 2, 0));
        due.refuses("no row", Due.BOUNDS, () -> loft.cell(scan, Integer.MAX_VALUE, 0));
        due.refuses("too many rows", Due.STATE, () -> loft.cell(much, 0, 0));
        due.refuses("too many rows goes ahead of no such row", Due.STATE, () -> loft.cell(much, 5000, 0));
        due.refuses("row below 0 goes ahead of too many rows", Due.BOUNDS, () -> loft.cell(much, -1, 0));
        due.refuses("no column goes ahead of too many rows", Due.BOUNDS, () -> loft.cell(much, 0, 3));
        loft.budget(1);
        due.refuses("too many steps goes ahead of no such row", Due.STATE, () -> loft.cell(scan, 2, 0));
        loft.budget(2);
        due.refuses("no such row within the budget", Due.BOUNDS, () -> loft.cell(scan, 2, 0));
        due.is("a cell within the budget", 3, () -> loft.cell(scan, 1, 0));
        loft.take(0, 0);
        due.is("a cell after a change", 3, () -> loft.cell(scan, 0, 0));
    }

    private static void testSame(Due due) {
        QueryLoft loft = new QueryLoft();
        Due.tableOf(loft, 2, "1 -|2 2|1 -");
        Due.tableOf(loft, 2, "2 2|1 -|1 -");
        Due.tableOf(loft, 2, "2 2|1 -|2 2");
        Due.tableOf(loft, 1, TEN);
        int first = loft.scan(0);
        int second = loft.scan(1);
        int third = loft.scan(2);
        int ten = loft.scan(3);
        int square = loft.join(ten, ten, 0, 0, 0);
        int much = loft.join(square, ten, 0, 0, 0);
        int doubled = loft.bag(first, first, 0);
        due.is("in another order", 1, () -> loft.same(first, second) ? 1 : 0);
        due.is("with itself", 1, () -> loft.same(first, first) ? 1 : 0);
        due.is("not as often", 0, () -> loft.same(first, third) ? 1 : 0);
        due.is("not as often, the other way round", 0, () -> loft.same(third, first) ? 1 : 0);
        due.is("twice as often", 0, () -> loft.same(first, doubled) ? 1 : 0);
        due.is("unlike columns", 0, () -> loft.same(first, ten) ? 1 : 0);
        int none = loft.filter(first, 0, 0, 50);
        int narrow = loft.filter(ten, 0, 0, 50);
        due.is("no rows of unlike columns", 0, () -> loft.same(none, narrow) ? 1 : 0);
        due.is("no rows", 1, () -> loft.same(none, loft.filter(first, 0, 0, 51)) ? 1 : 0);
        due.refuses("no node -1", Due.BOUNDS, () -> loft.same(-1, first) ? 1 : 0);
        due.refuses("no other 10", Due.BOUNDS, () -> loft.same(first, 10) ? 1 : 0);
        due.refuses("too many rows", Due.STATE, () -> loft.same(much, first) ? 1 : 0);
        due.refuses("too many rows of the other", Due.STATE, () -> loft.same(first, much) ? 1 : 0);
        due.refuses("too many rows of itself", Due.STATE, () -> loft.same(much, much) ? 1 : 0);
        due.refuses("no node goes first", Due.BOUNDS, () -> loft.same(much, 10) ? 1 : 0);
        loft.budget(3);
        due.is("each by itself within the budget", 1, () -> loft.same(first, second) ? 1 : 0);
        due.refuses("the budget goes ahead of columns", Due.STATE, () -> loft.same(first, ten) ? 1 : 0);
        due.refuses("the budget of the first one", Due.STATE, () -> loft.same(doubled, first) ? 1 : 0);
    }

    private static void testSteps(Due due) {
        QueryLoft loft = new QueryLoft();
        Due.tableOf(loft, 2, "1 1|2 2|3 3|4 4");
        Due.tableOf(loft, 1, "2|2|9");
        int first = loft.scan(0);
        int second = loft.scan(1);
        due.is("a scan", 4, () -> loft.steps(first));
        int filter = loft.filter(first, 0, 3, 1);
        due.is("a filter", 7, () -> loft.steps(filter));
        int inner = loft.join(filter, second, 0, 0, 0);
        due.is("a join", 7 + 3 + 2, () -> loft.steps(inner));
        int group = loft.group(inner, 0, 0, 0);
        due.is("a group", 12 + 1, () -> loft.steps(group));
        int twice = loft.bag(filter, filter, 0);
        due.is("the same part twice", 7 + 7 + 6, () -> loft.steps(twice));
        int nothing = loft.bag(twice, twice, 1);
        due.is("a part twice and no row", 40, () -> loft.steps(nothing));
        due.refuses("no node -1", Due.BOUNDS, () -> loft.steps(-1));
        due.refuses("no node 7", Due.BOUNDS, () -> loft.steps(7));
        loft.budget(39);
        due.refuses("over the budget", Due.STATE, () -> loft.steps(nothing));
        due.refuses("no node goes first", Due.BOUNDS, () -> loft.steps(7));
        loft.budget(40);
        due.is("the budget just so", 40, () -> loft.steps(nothing));
        int much = loft.join(loft.bag(twice, twice, 0), loft.bag(twice, twice, 0), 0, 0, 0);
        due.is("rows of that", 48, () -> loft.budget(100000) + loft.rows(much) - 40);
        due.is("steps of that", 48 + 2 * 52, () -> loft.steps(much));
    }

    /** Trees that are far too big to be gone through, made of few nodes. */
    private static void testDeepSteps(Due due) {
        QueryLoft loft = new QueryLoft();
        Due.tableOf(loft, 1, "1|2|3|4|5|6|7|8|9|10");
        int node = loft.scan(0);
        int steps = 10;
        while (steps * 2 + 10 <= 100000) {
            node = loft.bag(node, node, 3);
            steps = steps * 2 + 10;
            int made = node;
            int want = steps;
            due.is("steps of a deep tree", want, () -> loft.steps(made));
        }
        for (int more = 0; more < 4; more++) {
            int last = loft.bag(node, node, 3);
            due.refuses("too many steps", Due.STATE, () -> loft.steps(last));
            due.refuses("too many steps for rows", Due.STATE, () -> loft.rows(last));
            node = last;
        }
        while (loft.node(node, 1) != node && node < 23) {
            node = loft.bag(node, node, 3);
        }
        due.refuses("steps of 2 to the 23rd", Due.STATE, () -> loft.steps(23));
        for (int row = 9; row >= 0; row--) {
            loft.take(0, row);
        }
        due.is("steps of a deep tree of nothing", 0, () -> loft.steps(23));
    }

    private static void testBudget(Due due) {
        QueryLoft loft = new QueryLoft();
        Due.tableOf(loft, 1, "1|2|3");
        int scan = loft.scan(0);
        int both = loft.bag(scan, scan, 0);
        due.refuses("budget(0)", Due.ARGUMENT, () -> loft.budget(0));
        due.refuses("budget(-1)", Due.ARGUMENT, () -> loft.budget(-1));
        due.refuses("budget(100001)", Due.ARGUMENT, () -> loft.budget(100001));
        due.is("budget(1)", 100000, () -> loft.budget(1));
        due.refuses("rows over the budget", Due.STATE, () -> loft.rows(scan));
        due.is("budget(11)", 1, () -> loft.budget(11));
        due.is("rows within the budget", 3, () -> loft.rows(scan));
        due.refuses("rows of a bag", Due.STATE, () -> loft.rows(both));
        due.refuses("a refused budget", Due.ARGUMENT, () -> loft.budget(0));
        due.is("budget(12)", 11, () -> loft.budget(12));
        due.is("rows of a bag", 6, () -> loft.rows(both));
        due.is("nothing is used up", 6, () -> loft.rows(both));
        due.is("budget(100000)", 12, () -> loft.budget(100000));
        due.is("budget(100000) again", 100000, () -> loft.budget(100000));
    }

    private static void testNode(Due due) {
        QueryLoft loft = new QueryLoft();
        loft.table(1);
        loft.table(3);
        loft.table(2);
        int scan = loft.scan(2);
        int wide = loft.scan(1);
        int filter = loft.filter(scan, 1, 3, 5);
        int join = loft.join(filter, wide, 0, 2, 1);
        int semi = loft.join(filter, wide, 0, 2, 2);
        int group = loft.group(join, 4, 2, 1);
        int bag = loft.bag(group, scan, 2);
        int[][] wants = {{scan, 0, 2, -1, 2}, {wide, 0, 1, -1, 3}, {filter, 1, scan, -1, 2},
            {join, 2, filter, wide, 5}, {semi, 2, filter, wide, 2}, {group, 3, join, -1, 2}, {bag, 4, group, scan, 2}};
        for (int[] want : wants) {
            for (int what = 0; what < 4; what++) {
                int asked = what;
                due.is("node(" + want[0] + ", " + what + ")", want[what + 1], () -> loft.node(want[0], asked));
            }
        }
        due.refuses("no node -1", Due.BOUNDS, () -> loft.node(-1, 0));
        due.refuses("no node 7", Due.BOUNDS, () -> loft.node(7, 0));
        due.refuses("what -1", Due.ARGUMENT, () -> loft.node(0, -1));
        due.refuses("what 4", Due.ARGUMENT, () -> loft.node(0, 4));
        due.refuses("no node goes first", Due.BOUNDS, () -> loft.node(7, 4));
    }

    public static void main(String[] args) {
        Due due = new Due("AnswersTest");
        testRows(due);
        testTooManyRows(due);
        testCell(due);
        testSame(due);
        testSteps(due);
        testDeepSteps(due);
        testBudget(due);
        testNode(due);
        due.end();
    }
}
