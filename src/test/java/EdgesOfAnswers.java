/** The edges that the document names for the room and the budget of nodes, and for promises 10 to 14 and 16. */
final class EdgesOfAnswers {
    private static final String TEN = "1|1|1|1|1|1|1|1|1|1";
    private static final String ROOM = "A node must have at most 6 columns, and at most 200 rows, whenever it, or one that is "
        + "made of it, is asked for: otherwise what asks is not possible.";

    private EdgesOfAnswers() {
    }

    static void testAll(Due due) {
        testSixColumns(due);
        testRowsOfInner(due);
        testRowsOfLeft(due);
        testRowsOfAll(due);
        testRowsOfOnce(due);
        testWidestAndMostRows(due);
        testWhatIsMadeOfTooManyRows(due);
        testTooManyRowsFarBelow(due);
        testNotAskedFor(due);
        testRoomComesAndGoes(due);
        testFirstBudget(due);
        testBudgetJustSo(due);
        testAsOftenAsItStands(due);
        testStepsOfNothing(due);
        testBudgetOutOfRange(due);
        testRowsAndStepsOfNoNode(due);
        testCell(due);
        testCellGoesFirst(due);
        testSame(due);
        testSameOfSixColumns(due);
        testSameOfRowsThatAreGone(due);
        testSameOfUnlikeColumns(due);
        testSameOfNoNode(due);
        testNode(due);
        testNodeOutOfRange(due);
    }

    private static void testSixColumns(Due due) {
        due.sentence("Queries", "A node must have at most 6 columns,");
        due.also("Promise 7", "or it would have more than 6 columns");
        Run run = new Run(due);
        run.table(0, 1, "1|2");
        run.table(1, 3, "1 2 3");
        run.counts(0, "scan(0)", "scan(1)", "join(1, 1, 0, 0, 0)", "join(1, 1, 0, 0, 1)", "join(1, 0, 0, 0, 0)",
            "join(4, 0, 0, 0, 1)", "join(5, 0, 0, 0, 0)");
        int[] columns = {1, 3, 6, 6, 4, 5, 6};
        for (int node = 0; node < columns.length; node++) {
            run.is(columns[node], Calls.tell("node", node, 3));
        }
        run.gives("1 2 3 1 1 1", 6);
        for (int kind = 0; kind < 2; kind++) {
            run.refuses(Due.STATE, Calls.tell("join", 2, 0, 0, 0, kind), Calls.tell("join", 0, 2, 0, 5, kind),
                Calls.tell("join", 4, 1, 0, 0, kind), Calls.tell("join", 1, 4, 0, 3, kind),
                Calls.tell("join", 6, 6, 5, 5, kind));
        }
        for (int kind = 2; kind < 5; kind++) {
            run.is(kind + 5, Calls.tell("join", 6, 2, 5, 0, kind));
            run.is(6, Calls.tell("node", kind + 5, 3));
            run.gives(kind == 2 ? "1 2 3 1 1 1" : "", kind + 5);
        }
    }

    /** Ten rows (0), a row that meets none of them (1), both of them (2), twenty rows (3), and one more (4). */
    private static Run runOfTwenty(Due due) {
        Run run = new Run(due);
        run.table(0, 1, TEN);
        run.table(1, 1, "2");
        run.counts(0, "scan(0)", "scan(1)", "bag(0, 1, 0)", "bag(0, 0, 0)", "bag(3, 1, 0)");
        return run;
    }

    /** The same, and 200 rows (8) and 201 rows (9). */
    private static Run runOfTooMany(Due due) {
        Run run = runOfTwenty(due);
        run.counts(5, "bag(3, 3, 0)", "bag(5, 5, 0)", "bag(6, 6, 0)", "bag(7, 5, 0)", "bag(8, 1, 0)");
        return run;
    }

    private static void testRowsOfInner(Due due) {
        due.sentence("Queries", ROOM);
        due.also("Promise 10", "Throws `IllegalStateException` as told above");
        Run run = runOfTwenty(due);
        run.is(5, "join(3, 0, 0, 0, 0)");
        run.is(200, "rows(5)");
        run.is(1, "cell(5, 199, 1)");
        run.refuses(Due.BOUNDS, "cell(5, 200, 1)");
        run.is(6, "join(4, 2, 0, 0, 0)");
        run.refuses(Due.STATE, "rows(6)", "steps(6)", "cell(6, 0, 0)", "cell(6, 200, 0)", "same(6, 5)", "same(5, 6)");
        run.is(200, "rows(5)");
        run.is(0, "take(1, 0)");
        run.is(200, "rows(6)");
        run.is(1, "same(5, 6)");
    }

    private static void testRowsOfLeft(Due due) {
        due.sentence("Queries", ROOM);
        Run run = runOfTwenty(due);
        run.is(5, "join(3, 0, 0, 0, 1)");
        run.is(200, "rows(5)");
        run.is(6, "join(4, 0, 0, 0, 1)");
        run.refuses(Due.STATE, "rows(6)", "steps(6)", "cell(6, 0, 0)", "cell(6, 201, 0)", "same(6, 6)");
        run.is(7, "join(4, 0, 0, 0, 0)");
        run.is(200, "rows(7)");
        run.is(9, "take(0, 0)");
        run.is(163, "rows(6)");
        run.is(2, "cell(6, 162, 0)");
        run.is(-1000, "cell(6, 162, 1)");
    }

    private static void testRowsOfAll(Due due) {
        due.sentence("Queries", ROOM);
        Run run = runOfTooMany(due);
        run.counts(10, "bag(1, 8, 0)", "bag(8, 8, 0)");
        run.is(160, "rows(7)");
        run.is(200, "rows(8)");
        run.refuses(Due.STATE, "rows(9)", "rows(10)", "rows(11)", "steps(9)", "cell(10, 0, 0)", "same(11, 11)");
        run.is(0, "take(1, 0)");
        run.is(200, "rows(9)");
        run.is(200, "rows(10)");
        run.refuses(Due.STATE, "rows(11)");
        run.is(1, "same(9, 10)");
    }

    /** Two hundred rows that are all unlike, and one more: ONCE may be of more than 200, but not give them. */
    private static void testRowsOfOnce(Due due) {
        due.sentence("Queries", ROOM);
        Run run = new Run(due);
        run.table(0, 2, "7 0|7 1|7 2|7 3|7 4|7 5|7 6|7 7|7 8|7 9");
        run.table(1, 2, "7 10|7 11|7 12|7 13|7 14|7 15|7 16|7 17|7 18|7 19");
        run.table(2, 2, "7 -");
        run.counts(0, "scan(0)", "scan(1)", "scan(2)", "join(0, 0, 0, 0, 0)", "join(0, 1, 0, 0, 0)",
            "join(2, 2, 0, 0, 0)", "bag(3, 4, 3)", "bag(6, 6, 3)", "bag(6, 5, 3)", "bag(5, 6, 3)", "bag(6, 3, 3)");
        run.is(200, "rows(6)");
        run.is(200, "rows(7)");
        run.is(200, "rows(10)");
        run.refuses(Due.STATE, "rows(8)", "rows(9)", "steps(8)", "cell(9, 0, 0)", "same(8, 8)");
        run.is(9, "take(0, 9)");
        run.is(171, "rows(6)");
        run.is(172, "rows(8)");
        run.is(0, "same(8, 6)");
        run.is(1, "same(8, 9)");
    }

    /** Nodes of 200 rows with 6 columns; what others gave ahead of that (5 and 7) is still there behind it. */
    private static void testWidestAndMostRows(Due due) {
        due.sentence("Queries", "at most 6 columns, and at most 200 rows,");
        Run run = new Run(due);
        run.table(0, 3, "1 7 11|2 7 12|3 7 13|4 7 14|5 7 15|6 7 16|7 7 17|8 7 18|9 7 19|10 7 20");
        run.table(1, 2, "50 60");
        run.table(2, 2, "70 80");
        run.counts(0, "scan(0)", "filter(0, 1, 5, 0)", "bag(0, 0, 0)", "scan(1)", "join(2, 0, 1, 1, 0)",
            "filter(3, 0, 5, 0)", "filter(4, 1, 0, 7)", "scan(2)");
        run.gives("50 60", 5);
        run.gives("70 80", 7);
        run.is(200, "rows(4)");
        run.is(200, "rows(6)");
        int[] last = {10, 7, 20, 10, 7, 20};
        for (int column = 0; column < 6; column++) {
            run.is(last[column], Calls.tell("cell", 4, 199, column));
            run.is(last[column], Calls.tell("cell", 6, 199, column));
        }
        run.gives("50 60", 5);
        run.gives("70 80", 7);
        run.is(1, "same(4, 6)");
        run.refuses(Due.BOUNDS, "cell(4, 200, 0)", "cell(4, 199, 6)", "cell(6, 200, 5)");
    }

    /** Nodes of X, and how many rows they give where X is 200 rows with a 1; of 201 rows none is possible. */
    private static final String[] MADE = {"filter(X, 0, 0, 2)", "join(X, 1, 0, 0, 0)", "join(X, 1, 0, 0, 2)",
        "join(X, 1, 0, 0, 3)", "join(X, 1, 0, 0, 4)", "join(1, X, 0, 0, 0)", "join(1, X, 0, 0, 1)",
        "join(1, X, 0, 0, 2)", "join(1, X, 0, 0, 3)", "join(1, X, 0, 0, 4)", "group(X, 0, 0, 0)", "bag(X, 1, 1)",
        "bag(X, 1, 2)", "bag(X, X, 3)", "bag(1, X, 1)", "bag(1, X, 2)", "bag(1, X, 3)"};
    private static final int[] GIVEN = {0, 0, 0, 200, 200, 0, 1, 0, 1, 1, 1, 200, 0, 1, 1, 0, 2};

    private static void testWhatIsMadeOfTooManyRows(Due due) {
        due.sentence("Queries", ROOM);
        for (int i = 0; i < MADE.length; i++) {
            Run run = runOfTooMany(due);
            run.is(10, MADE[i].replace("X", "8"));
            run.is(11, MADE[i].replace("X", "9"));
            run.is(GIVEN[i], "rows(10)");
            run.refuses(Due.STATE, "rows(11)", "steps(11)", "cell(11, 0, 0)", "same(11, 0)", "same(0, 11)");
            run.is(1, "same(10, 10)");
        }
    }

    private static void testTooManyRowsFarBelow(Due due) {
        due.sentence("Queries", "whenever it, or one that is made of it, is asked for");
        Run run = runOfTooMany(due);
        run.counts(10, "filter(9, 0, 4, 0)", "group(10, 0, 0, 0)", "filter(11, 1, 0, 0)", "join(12, 12, 0, 0, 4)",
            "bag(13, 13, 2)");
        run.refuses(Due.STATE, "rows(14)", "steps(14)", "cell(14, 0, 0)", "same(14, 0)", "same(0, 14)", "rows(13)");
        run.is(0, "take(1, 0)");
        run.is(0, "rows(14)");
        run.is(1, "add(1, 2, 0, 0)");
        run.refuses(Due.STATE, "rows(14)");
        run.is(200, "rows(8)");
    }

    private static void testNotAskedFor(Due due) {
        due.sentence("Queries", "is asked for: otherwise what asks is not possible.");
        Run run = runOfTooMany(due);
        run.is(10, "filter(9, 0, 0, 5)");
        run.is(4, "node(9, 0)");
        run.is(8, "node(9, 1)");
        run.is(1, "node(10, 3)");
        run.refuses(Due.STATE, "rows(9)", "rows(10)");
        run.is(18, "rewrite(10)");
        run.is(0, "rows(18)");
        run.counts(11, "filter(0, 0, 0, 5)", "bag(11, 11, 0)", "bag(12, 12, 0)", "bag(13, 13, 0)", "bag(14, 14, 0)",
            "bag(15, 13, 0)", "filter(1, 0, 0, 5)", "bag(16, 17, 0)");
        run.refuses(Due.STATE, "rows(9)", "rows(10)", "same(10, 18)");
        run.is(10, "filter(9, 0, 0, 5)");
    }

    private static void testRoomComesAndGoes(Due due) {
        due.sentence("Queries", "whenever it, or one that is made of it, is asked for");
        Run run = new Run(due);
        run.table(0, 1, "1|1|1|1|1|1|1|1|1");
        run.table(1, 1, "2");
        run.counts(0, "scan(0)", "scan(1)", "bag(0, 0, 0)", "bag(2, 1, 0)", "join(3, 0, 0, 0, 1)", "group(4, 0, 0, 0)");
        for (int round = 0; round < 3; round++) {
            run.is(163, "rows(4)");
            run.gives("1 162|2 1", 5);
            run.is(10, "add(0, 1, 0, 0)");
            run.refuses(Due.STATE, "rows(4)", "rows(5)");
            run.is(21, "rows(3)");
            run.is(9, "take(0, 4)");
        }
    }

    /** Nodes that give no row, but take five times and twice as many steps as others: 17 takes 100000. */
    private static Run runOfManySteps(Due due) {
        Run run = new Run(due);
        run.table(0, 1, TEN);
        run.table(1, 1, "2");
        run.counts(0, "scan(0)", "scan(1)", "bag(0, 0, 1)", "bag(2, 2, 1)", "bag(3, 3, 1)", "bag(4, 4, 1)");
        int steps = 160;
        for (int node = 5; node < 17; node += 3) {
            run.is(steps, Calls.tell("steps", node));
            run.is(node + 1, Calls.tell("bag", node, node, 1));
            run.is(node + 2, Calls.tell("bag", node + 1, node + 1, 1));
            run.is(node + 3, Calls.tell("bag", node + 2, node, 1));
            steps *= 5;
        }
        return run;
    }

    private static void testFirstBudget(Due due) {
        due.sentence("Queries", "The BUDGET is so many steps, 100000 at first:",
            "What would take more steps is not possible (of two nodes each by itself); nothing changes by that.");
        due.also("Promise 13", "Throws `IllegalStateException` as told above");
        Run run = runOfManySteps(due);
        run.is(18, "bag(17, 1, 1)");
        run.is(19, "filter(17, 0, 0, 2)");
        run.is(100000, "steps(17)");
        run.is(0, "rows(17)");
        run.is(100000, "steps(19)");
        run.is(1, "same(17, 19)");
        run.refuses(Due.BOUNDS, "cell(17, 0, 0)");
        run.refuses(Due.STATE, "steps(18)", "rows(18)", "cell(18, 0, 0)", "same(17, 18)", "same(18, 17)");
        run.is(100000, "budget(100000)");
        run.is(100000, "steps(17)");
        run.is(0, "take(1, 0)");
        run.is(100000, "steps(18)");
        run.is(1, "add(1, 2, 0, 0)");
        run.refuses(Due.STATE, "steps(18)");
        run.is(100000, "budget(99999)");
        run.refuses(Due.STATE, "steps(17)", "rows(17)", "same(17, 17)");
        run.is(20000, "steps(14)");
    }

    private static void testBudgetJustSo(Due due) {
        due.sentence("Queries", "What would take more steps is not possible (of two nodes each by itself);");
        due.also("Promise 12", "Throws `IllegalStateException` as told above, for either");
        Run run = new Run(due);
        run.table(0, 1, "1|2|3");
        run.counts(0, "scan(0)", "filter(0, 0, 3, 1)", "bag(0, 1, 0)", "filter(0, 0, 0, 1)", "filter(0, 0, 3, 50)");
        int[] steps = {3, 5, 13, 4, 3};
        int[] rows = {3, 2, 5, 1, 0};
        int before = 100000;
        for (int node = 0; node < steps.length; node++) {
            run.is(before, Calls.tell("budget", steps[node] - 1));
            run.refuses(Due.STATE, Calls.tell("rows", node), Calls.tell("steps", node), Calls.tell("cell", node, 0, 0),
                Calls.tell("cell", node, 9, 0), Calls.tell("same", node, node));
            run.is(steps[node] - 1, Calls.tell("budget", steps[node]));
            before = steps[node];
            run.is(rows[node], Calls.tell("rows", node));
            run.is(steps[node], Calls.tell("steps", node));
            run.is(1, Calls.tell("same", node, node));
            run.refuses(Due.BOUNDS, Calls.tell("cell", node, rows[node], 0));
        }
        run.is(3, "budget(13)");
        run.is(0, "same(0, 2)");
        run.is(1, "same(2, 2)");
        run.is(13, "budget(12)");
        run.refuses(Due.STATE, "same(0, 2)", "same(2, 0)", "same(2, 2)");
        run.is(0, "same(0, 1)");
    }

    private static void testAsOftenAsItStands(Due due) {
        due.sentence("Queries", "a step is each row that a node gives, of the node that is asked for and of all of which it is "
            + "made, each as often as it stands in the tree.");
        due.also("Promise 13", "Returns how many steps a node takes.", "Returns how many.");
        Run run = new Run(due);
        run.table(0, 1, "5");
        run.counts(0, "scan(0)", "bag(0, 0, 0)", "bag(1, 1, 3)", "join(2, 1, 0, 0, 0)", "group(3, 0, 0, 0)",
            "filter(4, 1, 0, 0)", "join(5, 4, 0, 0, 3)", "join(0, 0, 0, 0, 4)", "join(0, 0, 0, 0, 2)");
        int[] steps = {1, 4, 9, 15, 16, 16, 32, 2, 3};
        for (int node = 0; node < steps.length; node++) {
            run.is(steps[node], Calls.tell("steps", node));
        }
        run.is(2, "add(0, -1000, 0, 0)");
        run.is(2, "steps(0)");
        run.is(8, "steps(1)");
        run.is(18, "steps(2)");
    }

    private static void testStepsOfNothing(Due due) {
        due.sentence("Promise 14", "Sets the budget.", "Returns what it was.");
        Run run = new Run(due);
        run.is(0, "table(1)");
        run.counts(0, "scan(0)", "filter(0, 0, 0, 0)", "join(0, 0, 0, 0, 1)", "group(0, 0, 0, 0)", "bag(0, 0, 0)");
        run.is(100000, "budget(1)");
        for (int node = 0; node < 5; node++) {
            run.is(0, Calls.tell("steps", node));
            run.is(0, Calls.tell("rows", node));
            run.refuses(Due.BOUNDS, Calls.tell("cell", node, 0, 0));
        }
        run.is(1, "add(0, 7, 0, 0)");
        run.is(1, "steps(0)");
        run.is(7, "cell(0, 0, 0)");
        run.is(1, "steps(1)");
        run.refuses(Due.STATE, "steps(2)", "rows(2)", "steps(3)", "rows(4)");
        run.is(1, "budget(2)");
        run.is(2, "steps(3)");
        run.refuses(Due.STATE, "steps(2)", "steps(4)");
        run.is(2, "budget(4)");
        run.is(4, "steps(4)");
    }

    private static void testBudgetOutOfRange(Due due) {
        due.sentence("Promise 14", "`steps`: 1 to 100000", "Throws `IllegalArgumentException` if steps is out of range");
        Run run = new Run(due);
        run.refuses(Due.ARGUMENT, "budget(0)", "budget(-1)", "budget(100001)", "budget(min)", "budget(max)");
        run.is(100000, "budget(1)");
        run.refuses(Due.ARGUMENT, "budget(0)", "budget(-1)", "budget(100001)", "budget(min)", "budget(max)");
        run.is(1, "budget(100000)");
        run.is(100000, "budget(99999)");
        run.is(99999, "budget(2)");
    }

    private static void testRowsAndStepsOfNoNode(Due due) {
        due.sentence("Promise 10", "Returns how many rows a node gives.", "`node`: a node", "Returns how many.",
            "Throws `IndexOutOfBoundsException` if there is no such node");
        due.also("Promise 13", "`node`: a node", "Throws `IndexOutOfBoundsException` if there is no such node");
        Run run = new Run(due);
        run.table(0, 1, TEN);
        run.refuses(Due.BOUNDS, "rows(0)", "steps(0)", "rows(-1)", "steps(-1)");
        run.is(0, "scan(0)");
        run.refuses(Due.BOUNDS, "rows(-1)", "rows(1)", "rows(24)", "rows(min)", "rows(max)", "steps(-1)", "steps(1)",
            "steps(24)", "steps(min)", "steps(max)");
        run.fillNodes(1, 23);
        run.refuses(Due.BOUNDS, "rows(24)", "steps(24)");
        run.is(10, "rows(0)");
        run.is(0, "rows(1)");
        run.is(10, "rows(23)");
        run.is(20, "steps(23)");
        run.is(10, "steps(1)");
    }

    private static void testCell(Due due) {
        due.sentence("Promise 11", "Returns a value of a row that a node gives.", "`node`: a node",
            "`row`: 0 for the first one", "`column`: a column", "Returns the value, or UNKNOWN.",
            "Throws `IndexOutOfBoundsException` if there is no such node or column, or row is below 0, or, behind all "
            + "others, there is no such row");
        Run run = new Run(due);
        run.table(0, 3, "1 - 3|-99 99 -");
        run.is(0, "scan(0)");
        run.gives("1 - 3|-99 99 -", 0);
        run.refuses(Due.BOUNDS, "cell(-1, 0, 0)", "cell(1, 0, 0)", "cell(24, 0, 0)", "cell(min, 0, 0)",
            "cell(max, 0, 0)", "cell(0, -1, 0)", "cell(0, 2, 0)", "cell(0, 200, 0)", "cell(0, min, 0)",
            "cell(0, max, 0)", "cell(0, 0, -1)", "cell(0, 0, 3)", "cell(0, 0, 6)", "cell(0, 0, min)",
            "cell(0, 0, max)", "cell(0, max, max)");
        run.is(1, "take(0, 0)");
        run.refuses(Due.BOUNDS, "cell(0, 1, 0)");
        run.is(-99, "cell(0, 0, 0)");
        run.is(0, "take(0, 0)");
        run.refuses(Due.BOUNDS, "cell(0, 0, 0)", "cell(0, 0, 2)");
    }

    private static void testCellGoesFirst(Due due) {
        due.sentence("Promise 11", "row is below 0, or, behind all others, there is no such row",
            "Throws `IllegalStateException` as told above; this is asked ahead of whether there is such a row");
        Run run = runOfTooMany(due);
        run.refuses(Due.STATE, "cell(9, 0, 0)", "cell(9, 200, 0)", "cell(9, 201, 0)", "cell(9, max, 0)");
        run.refuses(Due.BOUNDS, "cell(9, -1, 0)", "cell(9, min, 0)", "cell(9, 0, 1)", "cell(9, 0, -1)",
            "cell(9, 500, 1)", "cell(10, 0, 0)", "cell(10, -1, 1)");
        run.is(100000, "budget(9)");
        run.refuses(Due.STATE, "cell(0, 0, 0)", "cell(0, 10, 0)", "cell(0, max, 0)");
        run.refuses(Due.BOUNDS, "cell(0, -1, 0)", "cell(0, 0, 1)", "cell(0, 0, -1)", "cell(10, 0, 0)");
        run.is(9, "budget(10)");
        run.refuses(Due.BOUNDS, "cell(0, 10, 0)", "cell(0, max, 0)");
        run.is(1, "cell(0, 9, 0)");
    }

    private static void testSame(Due due) {
        due.sentence("Promise 12", "Returns whether two nodes give the same rows, each as often, in whichever order.",
            "Returns true if they do;");
        Run run = new Run(due);
        run.table(0, 2, "1 -|- 1|1 -");
        run.table(1, 2, "- 1|1 -|1 -");
        run.table(2, 2, "- 1|1 -|- 1");
        run.is(3, "table(2)");
        run.counts(0, "scan(0)", "scan(1)", "scan(2)", "scan(3)", "filter(0, 0, 0, 50)", "bag(0, 0, 0)", "bag(1, 0, 0)",
            "bag(0, 0, 3)", "bag(2, 0, 3)");
        String[] alike = {"01", "34", "56", "78"};
        for (int node = 0; node < 9; node++) {
            for (int other = 0; other < 9; other++) {
                boolean want = node == other;
                for (String pair : alike) {
                    want |= pair.indexOf('0' + node) >= 0 && pair.indexOf('0' + other) >= 0;
                }
                run.is(want ? 1 : 0, Calls.tell("same", node, other));
            }
        }
    }

    private static void testSameOfSixColumns(Due due) {
        due.sentence("Promise 12", "the same rows, each as often, in whichever order.");
        Run run = new Run(due);
        run.table(0, 3, "1 7 -|2 7 2");
        run.counts(0, "scan(0)", "join(0, 0, 1, 1, 0)", "filter(1, 0, 0, 2)", "filter(1, 0, 0, 1)", "bag(2, 3, 0)",
            "bag(1, 4, 1)", "bag(1, 4, 2)", "bag(1, 4, 3)", "filter(4, 3, 1, 2)");
        run.is(1, "same(1, 4)");
        run.is(1, "same(4, 1)");
        run.is(0, "rows(5)");
        run.is(1, "same(6, 4)");
        run.is(1, "same(4, 7)");
        run.is(0, "same(2, 3)");
        run.gives("2 7 2 1 7 -|1 7 - 1 7 -", 8);
        run.is(0, "same(8, 3)");
        run.is(0, "same(8, 2)");
    }

    /** As many rows, but other ones: neither one that was there once nor zeros count. */
    private static void testSameOfRowsThatAreGone(Due due) {
        due.sentence("Promise 12", "Returns true if they do;");
        Run run = new Run(due);
        run.table(0, 1, "5|3");
        run.table(1, 1, "0|1");
        run.counts(0, "scan(0)", "scan(1)");
        run.is(0, "same(0, 1)");
        run.is(0, "same(1, 0)");
        run.is(1, "take(0, 1)");
        run.is(1, "take(1, 1)");
        run.is(0, "same(0, 1)");
        run.is(0, "same(1, 0)");
        run.is(0, "take(1, 0)");
        run.is(1, "add(1, 3, 0, 0)");
        run.is(0, "same(0, 1)");
        run.is(0, "same(1, 0)");
        run.is(0, "take(1, 0)");
        run.is(1, "add(1, 5, 0, 0)");
        run.is(1, "same(0, 1)");
    }

    private static void testSameOfUnlikeColumns(Due due) {
        due.sentence("Promise 12", "false if they have unlike numbers of columns (exceptions go ahead of that).");
        Run run = new Run(due);
        run.table(0, 1, "-|-");
        run.table(1, 2, "- -|- -");
        run.is(2, "table(3)");
        run.counts(0, "scan(0)", "scan(1)", "scan(2)", "filter(0, 0, 5, 0)", "filter(1, 0, 5, 0)");
        run.is(0, "same(0, 1)");
        run.is(0, "same(1, 0)");
        run.is(0, "same(2, 3)");
        run.is(0, "same(3, 4)");
        run.is(0, "same(4, 2)");
        run.is(100000, "budget(1)");
        run.refuses(Due.STATE, "same(0, 1)", "same(2, 0)", "same(0, 2)");
        run.refuses(Due.BOUNDS, "same(0, 5)", "same(5, 0)");
    }

    private static void testSameOfNoNode(Due due) {
        due.sentence("Promise 12", "`node`: a node", "`other`: a node",
            "Throws `IndexOutOfBoundsException` if there is no such node, of either");
        Run run = new Run(due);
        run.refuses(Due.BOUNDS, "same(0, 0)");
        run.is(0, "table(1)");
        run.is(0, "scan(0)");
        run.refuses(Due.BOUNDS, "same(0, 1)", "same(1, 0)", "same(-1, 0)", "same(0, -1)", "same(1, 1)", "same(24, 0)",
            "same(0, 24)", "same(min, 0)", "same(0, min)", "same(max, 0)", "same(0, max)");
        run.is(1, "same(0, 0)");
    }

    private static void testNode(Due due) {
        due.sentence("Promise 16", "Returns what a node is.", "`what`: 0 its kind: 0 a SCAN, 1 a FILTER, 2 a JOIN, 3 a GROUP, "
            + "4 a BAG; 1 the node of which it is made first, of a SCAN the table; 2 the second one, -1 if there is none; "
            + "3 how many columns it has", "Returns that.");
        Run run = new Run(due);
        run.counts(0, "table(3)", "table(1)", "table(2)", "table(1)");
        run.counts(0, "scan(3)", "scan(0)", "filter(1, 2, 4, 0)", "join(0, 2, 0, 2, 1)", "join(2, 0, 0, 0, 3)",
            "group(4, 2, 0, 0)", "bag(5, 5, 1)", "scan(2)", "bag(7, 6, 0)");
        int[][] wants = {{0, 3, -1, 1}, {0, 0, -1, 3}, {1, 1, -1, 3}, {2, 0, 2, 4}, {2, 2, 0, 3}, {3, 4, -1, 2},
            {4, 5, 5, 2}, {0, 2, -1, 2}, {4, 7, 6, 2}};
        for (int node = 0; node < wants.length; node++) {
            for (int what = 0; what < 4; what++) {
                run.is(wants[node][what], Calls.tell("node", node, what));
            }
        }
    }

    private static void testNodeOutOfRange(Due due) {
        due.sentence("Promise 16", "`node`: a node", "Throws `IndexOutOfBoundsException` if there is no such node",
            "Throws `IllegalArgumentException` if what is out of range");
        Run run = new Run(due);
        run.refuses(Due.BOUNDS, "node(0, 0)", "node(0, 4)");
        run.table(0, 1, TEN);
        run.is(0, "scan(0)");
        run.refuses(Due.BOUNDS, "node(-1, 0)", "node(1, 0)", "node(24, 0)", "node(min, 0)", "node(max, 0)", "node(1, 4)");
        run.refuses(Due.ARGUMENT, "node(0, -1)", "node(0, 4)", "node(0, min)", "node(0, max)");
        run.is(100000, "budget(1)");
        run.counts(0, "node(0, 0)");
        run.is(1, "node(0, 3)");
    }
}
