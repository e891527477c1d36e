/** What the document says of exceptions: which one is thrown, which goes first, and that nothing changes. */
final class EdgesOfRefusals {
    private static final String FIRST =
        "If several apply, IndexOutOfBoundsException goes first, then IllegalArgumentException.";

    private EdgesOfRefusals() {
    }

    static void testAll(Due due) {
        testWhatDoesNotExist(due);
        testOutOfRange(due);
        testNotPossibleNow(due);
        testBoundsAheadOfArguments(due);
        testBoundsAheadOfState(due);
        testArgumentsAheadOfState(due);
        testNothingChanges(due);
        testNothingChangesWhereAllIsFull(due);
    }

    /** A table of one column and one of two, their scans, and a view. */
    private static Run runOfTwo(Due due) {
        Run run = new Run(due);
        run.table(0, 1, "1|-");
        run.table(1, 2, "1 2|- 1|1 -");
        run.is(0, "scan(0)");
        run.is(1, "scan(1)");
        run.is(0, "view(0, 1, 0, 0)");
        return run;
    }

    /**
     * Everything full: four tables, of which 0 has ten rows and 3 has none; six links, four views and 24 nodes:
     * scans (0 to 2), six columns (3), a filter (5) that could move below its bag (4). The budget is 9 steps.
     */
    private static Run runOfAllFull(Due due) {
        Run run = new Run(due);
        run.table(0, 1, "1|1|1|1|1|1|1|1|1|1");
        run.table(1, 2, "1 2");
        run.table(2, 3, "1 - 3");
        run.is(3, "table(2)");
        run.counts(0, "scan(0)", "scan(1)", "scan(2)", "join(2, 2, 0, 0, 0)", "bag(0, 0, 0)", "filter(4, 0, 0, 1)",
            "group(0, 0, 0, 0)");
        run.fillNodes(7, 23);
        run.counts(1, "link(0, 0, 1, 0)", "link(0, 0, 1, 1)", "link(0, 0, 2, 0)", "link(0, 0, 2, 1)",
            "link(2, 2, 1, 0)", "link(2, 2, 1, 1)");
        run.counts(0, "view(0, 1, 0, 0)", "view(0, 1, 0, 1)", "view(0, 2, 0, 0)", "view(2, 1, 2, 1)");
        run.is(100000, "budget(9)");
        return run;
    }

    private static void testWhatDoesNotExist(Due due) {
        due.sentence("Views", "IndexOutOfBoundsException is thrown for a table, column, row, node, link or view that does "
            + "not exist;");
        Run run = runOfTwo(due);
        run.refuses(Due.BOUNDS, "add(2, 0, 0, 0)", "take(2, 0)", "scan(2)", "link(2, 0, 0, 0)", "link(0, 0, 2, 0)",
            "view(2, 0, 0, 0)", "view(0, 2, 0, 0)", "ways(2)");
        run.refuses(Due.BOUNDS, "filter(0, 1, 0, 0)", "join(0, 1, 1, 0, 0)", "join(0, 1, 0, 2, 0)", "group(0, 1, 0, 0)",
            "group(0, 0, 1, 1)", "cell(0, 0, 1)", "link(0, 1, 1, 0)", "link(0, 0, 1, 2)", "view(0, 1, 1, 0)",
            "view(0, 1, 0, 2)");
        run.refuses(Due.BOUNDS, "take(0, 2)", "cell(0, 2, 0)", "often(0, 2, 0)", "often(0, 0, 3)");
        run.refuses(Due.BOUNDS, "filter(2, 0, 0, 0)", "join(2, 1, 0, 0, 0)", "join(0, 2, 0, 0, 0)", "group(2, 0, 0, 0)",
            "bag(2, 0, 0)", "bag(0, 2, 0)", "rows(2)", "cell(2, 0, 0)", "same(2, 0)", "same(0, 2)", "steps(2)",
            "rewrite(2)", "node(2, 0)");
        run.refuses(Due.BOUNDS, "different(1)", "often(1, 0, 0)");
    }

    private static void testOutOfRange(Due due) {
        due.sentence("Views", "IllegalArgumentException for another argument out of range;");
        Run run = runOfTwo(due);
        run.refuses(Due.ARGUMENT, "table(0)", "table(4)", "add(0, 100, 0, 0)", "add(0, 0, 1, 0)", "add(1, 0, -100, 0)",
            "add(1, 0, 0, 1)", "filter(0, 0, 6, 0)", "filter(0, 0, 0, 100)", "filter(0, 0, 4, 1)",
            "join(0, 1, 0, 0, 5)", "group(0, 0, 5, 0)", "group(0, 0, 0, 1)", "bag(0, 0, 4)", "budget(0)",
            "budget(100001)", "node(0, 4)", "link(0, 0, 0, 0)", "estimate(0)", "estimate(4)", "cost(0)", "cost(4)",
            "split(0)", "split(4)", "view(0, 0, 0, 0)");
    }

    private static void testNotPossibleNow(Due due) {
        due.sentence("Views", "and IllegalStateException if a call is not possible now.");
        Run run = runOfAllFull(due);
        run.refuses(Due.STATE, "table(1)", "add(0, 1, 0, 0)", "scan(3)", "filter(0, 0, 0, 50)", "join(0, 1, 0, 0, 4)",
            "join(3, 0, 0, 0, 0)", "group(0, 0, 1, 0)", "bag(0, 0, 1)", "bag(0, 1, 0)", "rows(0)", "cell(0, 0, 0)",
            "same(0, 1)", "same(1, 0)", "steps(0)", "rewrite(5)", "link(0, 0, 1, 0)", "view(0, 1, 0, 0)", "ways(0)");
        run.is(1, "rows(1)");
        run.is(3, "steps(3)");
    }

    private static void testBoundsAheadOfArguments(Due due) {
        due.sentence("Views", FIRST);
        Run run = runOfTwo(due);
        run.refuses(Due.BOUNDS, "add(2, 100, 0, 0)", "add(-1, 0, 1, 1)", "filter(2, 0, 6, 100)", "filter(0, 1, 6, 0)",
            "filter(0, 1, 0, 100)", "filter(0, -1, 4, 1)");
        run.refuses(Due.BOUNDS, "join(2, 0, 0, 0, 5)", "join(0, 2, 0, 0, 5)", "join(0, 1, 1, 0, 5)",
            "join(0, 1, 0, 2, -1)", "group(2, 0, 5, 0)", "group(0, 1, 5, 0)", "group(0, 1, 0, 1)",
            "group(0, -1, -1, 0)", "group(0, 0, 5, 1)", "group(2, 0, 0, 1)");
        run.refuses(Due.BOUNDS, "bag(2, 0, 4)", "bag(0, 2, 4)", "bag(-1, 0, -1)", "node(2, 4)", "node(-1, -1)");
        run.refuses(Due.BOUNDS, "link(2, 0, 2, 0)", "link(0, 1, 0, 0)", "link(0, 0, 0, 1)", "link(-1, 0, -1, 0)",
            "view(2, 2, 0, 0)", "view(0, 0, 1, 0)", "view(0, 0, 0, 1)", "view(-1, -1, 0, 0)");
    }

    private static void testBoundsAheadOfState(Due due) {
        due.sentence("Views", FIRST);
        Run run = runOfAllFull(due);
        run.refuses(Due.BOUNDS, "add(4, 1, 0, 0)", "add(4, 100, 0, 0)", "scan(4)", "filter(24, 0, 0, 50)",
            "filter(0, 1, 0, 50)", "filter(0, 1, 6, 50)", "join(24, 0, 0, 0, 0)", "join(3, 24, 0, 0, 0)",
            "join(3, 0, 6, 0, 0)", "join(3, 0, 0, 1, 5)");
        run.refuses(Due.BOUNDS, "group(24, 0, 1, 0)", "group(0, 1, 1, 0)", "group(0, 0, 1, 1)", "group(0, 1, 5, 0)",
            "bag(24, 0, 0)", "bag(0, 24, 1)", "bag(24, 1, 4)", "rows(24)", "steps(24)", "rewrite(24)");
        run.refuses(Due.BOUNDS, "cell(24, 0, 0)", "cell(0, -1, 0)", "cell(0, 0, 1)", "same(24, 0)", "same(0, 24)");
        run.refuses(Due.BOUNDS, "link(4, 0, 1, 0)", "link(0, 1, 1, 0)", "link(0, 0, 1, 2)", "link(0, 1, 0, 0)",
            "view(4, 0, 0, 0)", "view(0, 1, 1, 0)", "view(0, 1, 0, 2)", "view(0, 0, 0, 1)", "ways(4)", "ways(-1)");
    }

    private static void testArgumentsAheadOfState(Due due) {
        due.sentence("Views", "then IllegalArgumentException.");
        Run run = runOfAllFull(due);
        run.refuses(Due.ARGUMENT, "table(0)", "table(4)", "add(0, 100, 0, 0)", "add(0, 0, 1, 0)", "add(0, 0, 0, -1000)",
            "filter(0, 0, 6, 0)", "filter(0, 0, 0, 100)", "filter(0, 0, 5, 1)", "join(0, 1, 0, 0, 5)",
            "join(3, 0, 0, 0, -1)");
        run.refuses(Due.ARGUMENT, "group(0, 0, 5, 0)", "group(0, 0, -1, 0)", "group(0, 0, 0, 1)", "bag(0, 0, 4)",
            "bag(0, 1, 4)", "bag(0, 1, -1)", "node(0, 4)", "link(0, 0, 0, 0)", "view(0, 0, 0, 0)", "budget(0)");
    }

    private static void testNothingChanges(Due due) {
        due.sentence("Views", "A call that throws an exception changes nothing.");
        Run run = runOfTwo(due);
        run.is(100000, "budget(50)");
        run.refuses(Due.ARGUMENT, "table(0)", "add(1, 5, 5, 5)", "add(1, 5, 500, 0)", "filter(0, 0, 5, 5)",
            "join(0, 1, 0, 0, 5)", "group(0, 0, 0, 1)", "bag(1, 1, 4)", "budget(100001)", "link(1, 0, 1, 1)",
            "view(1, 1, 0, 1)");
        run.refuses(Due.BOUNDS, "add(2, 0, 0, 0)", "take(0, 2)", "take(1, -1)", "scan(2)", "filter(1, 2, 0, 0)",
            "join(1, 0, 0, 1, 0)", "group(0, 0, 4, 1)", "bag(0, 2, 0)", "rewrite(2)", "link(0, 0, 1, 2)",
            "view(0, 1, 0, 2)");
        run.refuses(Due.STATE, "bag(0, 1, 0)", "ways(0)");
        run.is(1, "link(0, 0, 1, 0)");
        run.is(1, "view(0, 1, 0, 1)");
        run.is(2, "filter(0, 0, 5, 0)");
        run.is(50, "budget(50)");
        run.is(3, "add(0, 3, 0, 0)");
        run.gives("1|-|3", 0);
        run.gives("1 2|- 1|1 -", 1);
        run.is(2, "table(1)");
        run.is(3, "scan(2)");
    }

    private static void testNothingChangesWhereAllIsFull(Due due) {
        due.sentence("Views", "A call that throws an exception changes nothing.");
        Run run = runOfAllFull(due);
        run.refuses(Due.STATE, "add(0, 2, 0, 0)", "rows(0)", "same(1, 0)", "rewrite(5)", "bag(0, 0, 2)");
        run.is(9, "budget(10)");
        run.is(10, "rows(0)");
        run.is(1, "cell(0, 9, 0)");
        run.refuses(Due.STATE, "rows(4)", "rows(6)", "rewrite(5)");
        run.is(10, "budget(11)");
        run.gives("1 10", 6);
        run.is(9, "take(0, 0)");
        run.gives("1 9", 6);
        run.is(10, "steps(6)");
        run.is(10, "add(0, 2, 0, 0)");
        run.refuses(Due.STATE, "rows(6)", "add(0, 3, 0, 0)");
        run.is(11, "budget(12)");
        run.gives("1 9|2 1", 6);
        run.is(9, "often(0, 0, 0)");
        run.is(1, "often(1, 9, 0)");
    }
}
