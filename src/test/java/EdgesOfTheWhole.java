/** What the document says of the whole ahead of its terms: each of its parts, and one beside the others. */
final class EdgesOfTheWhole {
    private EdgesOfTheWhole() {
    }

    static void testAll(Due due) {
        testQueries(due);
        testRewriting(due);
        testOrders(due);
        testViews(due);
        testWays(due);
        testBudgets(due);
    }

    /** Two tables with unknown values (0 and 1), and their scans. */
    private static Run runOfTwo(Due due) {
        Run run = new Run(due);
        run.table(0, 2, "1 10|2 20|- 30|2 -|-99 99");
        run.table(1, 2, "2 5|- 6|2 9|3 10");
        run.is(0, "scan(0)");
        run.is(1, "scan(1)");
        return run;
    }

    private static void testQueries(Due due) {
        due.sentence("What it is", "A small query engine: tables with unknown values, three truths, queries as trees of "
            + "filters, joins of all kinds, groups, bags put together, rows that are in others or not,");
        Run run = runOfTwo(due);
        run.counts(2, "filter(0, 0, 1, 1)", "join(2, 1, 0, 0, 0)", "join(2, 1, 0, 0, 1)", "join(2, 1, 0, 0, 2)",
            "join(2, 1, 0, 0, 3)", "join(2, 1, 0, 0, 4)", "bag(5, 6, 0)", "group(8, 0, 1, 1)", "filter(9, 1, 2, 1)");
        run.gives("2 20|2 -|-99 99", 2);
        run.gives("2 20 2 5|2 20 2 9|2 - 2 5|2 - 2 9", 3);
        run.gives("2 20 2 5|2 20 2 9|2 - 2 5|2 - 2 9|-99 99 - -", 4);
        run.gives("2 20|2 -", 5);
        run.gives("-99 99", 6);
        run.gives("", 7);
        run.gives("2 20|2 -|-99 99", 8);
        run.gives("2 1|-99 1", 9);
        run.gives("", 10);
        run.is(3, "take(1, 1)");
        run.gives("-99 99", 7);
    }

    /** Each filter gives the same rows behind it, in the same order. */
    private static void testRewriting(Due due) {
        due.sentence("What it is", "rewriting that moves filters down without changing any row,");
        String[] parts = {"join(0, 1, 0, 0, 0)", "join(0, 1, 0, 0, 1)", "join(0, 1, 0, 0, 2)", "join(0, 1, 0, 0, 3)",
            "join(0, 1, 0, 0, 4)", "bag(0, 1, 0)", "bag(0, 1, 1)", "bag(1, 0, 2)", "bag(0, 1, 3)", "group(0, 0, 0, 0)",
            "filter(0, 0, 3, 1)"};
        for (String part : parts) {
            for (int comparison = 0; comparison < 6; comparison++) {
                Run run = runOfTwo(due);
                run.is(2, part);
                run.is(3, Calls.tell("filter", 2, 0, comparison, comparison < 4 ? 2 : 0));
                run.is(4, Calls.tell("filter", 3, 1, comparison, comparison < 4 ? 20 : 0));
                QueryLoft loft = new QueryLoft();
                run.repeat(loft);
                due.gives("behind rewriting of " + part, Due.rowsOf(loft, 4), loft, loft.rewrite(4));
            }
        }
    }

    private static void testOrders(Due due) {
        due.sentence("What it is", "orders of joins by estimates,");
        Run run = runOfTwo(due);
        run.table(2, 1, "7|8");
        run.is(20, "estimate(3)");
        run.is(48, "cost(7)");
        run.is(5, "estimate(1)");
        run.is(1, "split(7)");
        run.is(1, "link(2, 0, 0, 1)");
        run.is(2, "estimate(5)");
        run.is(12, "cost(7)");
        run.is(5, "split(7)");
    }

    /** A view tells what the rows of its join are, each once, whatever is added or taken. */
    private static void testViews(Due due) {
        due.sentence("What it is", "views that are kept up by differences,");
        Run run = runOfTwo(due);
        run.is(0, "view(0, 1, 0, 0)");
        run.counts(2, "join(0, 1, 0, 0, 0)", "bag(2, 2, 3)");
        String[] changes = {"add(0, 3, 1, 0)", "add(0, 3, 1, 0)", "add(1, 2, 5, 0)", "take(0, 1)", "take(1, 0)",
            "add(1, -1000, 5, 0)", "take(0, 2)", "take(1, 0)"};
        int[] counts = {6, 7, 5, 6, 4, 5, 5, 4};
        int[] different = {5, 5, 5, 3, 3, 3, 1, 1};
        run.is(4, "different(0)");
        run.is(4, "rows(3)");
        for (int i = 0; i < changes.length; i++) {
            run.is(counts[i], changes[i]);
            run.is(different[i], "different(0)");
            run.is(different[i], "rows(3)");
        }
    }

    private static void testWays(Due due) {
        due.sentence("What it is", "ways round and round that see each pair once,");
        Run run = new Run(due);
        run.table(0, 2, "1 2|2 3|3 1|1 2|3 3|- 1|3 -");
        run.is(9, "ways(0)");
        run.is(6, "take(0, 2)");
        run.is(4, "ways(0)");
    }

    private static void testBudgets(Due due) {
        due.sentence("What it is", "and budgets that give all back.");
        Run run = runOfTwo(due);
        run.is(2, "bag(0, 1, 0)");
        run.is(18, "steps(2)");
        run.is(100000, "budget(17)");
        run.refuses(Due.STATE, "rows(2)", "steps(2)", "cell(2, 0, 0)", "same(2, 0)", "same(0, 2)");
        run.is(17, "budget(18)");
        run.gives("1 10|2 20|- 30|2 -|-99 99|2 5|- 6|2 9|3 10", 2);
        run.is(18, "budget(100000)");
        run.is(18, "steps(2)");
    }
}
