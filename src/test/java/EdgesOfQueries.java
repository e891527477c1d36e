/** The edges that the document names for queries, and for promises 5 to 9, which make their nodes. */
final class EdgesOfQueries {
    private EdgesOfQueries() {
    }

    static void testAll(Due due) {
        testNumberOfNodes(due);
        testLastNodeOfEachKind(due);
        testNodesOfEarlierOnes(due);
        testScan(due);
        testScanOfNoTable(due);
        testComparisons(due);
        testFilterOfAllAndOfNone(due);
        testFilterOutOfRange(due);
        testFilterOfNoColumn(due);
        testJoinOfNothing(due);
        testJoinOfUnknown(due);
        testJoinOfAllThatMeet(due);
        testNotIn(due);
        testJoinOutOfRange(due);
        testGroups(due);
        testGroupOfNothing(due);
        testCutSums(due);
        testSumsPastTheEnds(due);
        testCountsAbove99(due);
        testGroupOutOfRange(due);
        testBags(due);
        testBagsWithNothing(due);
        testBagsOfRowsThatAreGone(due);
        testBagsOfOneNode(due);
        testBagOutOfRange(due);
    }

    private static final String THE_SAME =
        "Returns number of the node; a node that is the same as an earlier one is that (also when there are 24), here and below.";
    private static final String FULL = "Throws `IllegalStateException` if there are 24 nodes";

    private static void testNumberOfNodes(Due due) {
        due.sentence("Queries", "Queries are nodes, numbered from 0, at most 24;");
        due.also("Promise 5", THE_SAME, FULL);
        due.also("Promise 6", FULL);
        due.also("Promise 7", "Throws `IllegalStateException` if there are 24 nodes,");
        due.also("Promise 8", FULL);
        due.also("Promise 9", "Throws `IllegalStateException` if there are 24 nodes,");
        Run run = new Run(due);
        run.table(0, 1, "2|23|24");
        run.is(1, "table(1)");
        run.refuses(Due.BOUNDS, "rows(0)", "node(0, 0)");
        run.counts(0, "scan(0)", "filter(0, 0, 1, 1)", "join(0, 0, 0, 0, 0)", "group(0, 0, 0, 0)", "bag(0, 0, 0)");
        run.fillNodes(5, 22);
        run.refuses(Due.BOUNDS, "rows(23)", "node(23, 0)");
        run.is(23, "filter(0, 0, 1, 23)");
        run.gives("2|24", 23);
        run.refuses(Due.BOUNDS, "rows(24)", "node(24, 0)");
        run.refuses(Due.STATE, "scan(1)", "filter(0, 0, 1, 24)", "join(0, 0, 0, 0, 1)", "group(0, 0, 1, 0)",
            "bag(0, 0, 1)", "filter(23, 0, 1, 1)", "join(23, 0, 0, 0, 0)", "bag(23, 23, 3)");
        run.counts(0, "scan(0)", "filter(0, 0, 1, 1)", "join(0, 0, 0, 0, 0)", "group(0, 0, 0, 0)", "bag(0, 0, 0)");
        run.is(23, "filter(0, 0, 1, 23)");
        run.is(5, "filter(0, 0, 1, 5)");
        run.is(2, "table(3)");
    }

    /** Each kind of node as the 24th, once more as that, and another one of its kind behind it. */
    private static void testLastNodeOfEachKind(Due due) {
        due.sentence("Promise 5", "a node that is the same as an earlier one is that (also when there are 24)");
        due.also("Promise 6", "Returns number of the node.");
        due.also("Promise 7", "Returns number of the node.");
        due.also("Promise 8", "Returns number of the node.");
        due.also("Promise 9", "Returns number of the node.");
        String[] last = {"scan(1)", "filter(1, 0, 4, 0)", "join(0, 1, 0, 0, 4)", "group(1, 0, 0, 0)", "bag(0, 1, 3)"};
        String[] more = {"scan(2)", "filter(1, 0, 5, 0)", "join(1, 0, 0, 0, 4)", "group(1, 0, 1, 0)", "bag(1, 0, 3)"};
        for (int kind = 0; kind < last.length; kind++) {
            Run run = new Run(due);
            run.table(0, 1, "1|-");
            run.is(1, "table(1)");
            run.is(2, "table(1)");
            run.is(0, "scan(0)");
            run.fillNodes(1, 22);
            run.is(23, last[kind]);
            run.is(23, last[kind]);
            run.is(kind, "node(23, 0)");
            run.refuses(Due.STATE, more[kind]);
            run.is(23, last[kind]);
            run.is(0, "scan(0)");
        }
    }

    private static void testNodesOfEarlierOnes(Due due) {
        due.sentence("Queries", "a node is made of earlier ones, and is never changed.");
        Run run = new Run(due);
        run.table(0, 2, "1 2|3 4");
        run.refuses(Due.BOUNDS, "filter(0, 0, 5, 0)", "join(0, 0, 0, 0, 0)", "group(0, 0, 0, 0)", "bag(0, 0, 0)");
        run.is(0, "scan(0)");
        run.refuses(Due.BOUNDS, "filter(1, 0, 5, 0)", "join(0, 1, 0, 0, 0)", "join(1, 0, 0, 0, 0)",
            "group(1, 0, 0, 0)", "bag(0, 1, 0)", "bag(1, 0, 0)");
        run.is(1, "bag(0, 0, 0)");
        run.is(2, "filter(1, 0, 3, 2)");
        run.is(4, "rewrite(2)");
        run.is(1, "node(2, 0)");
        run.is(1, "node(2, 1)");
        run.is(-1, "node(2, 2)");
        run.is(2, "node(2, 3)");
        run.is(2, "filter(1, 0, 3, 2)");
        run.gives("3 4|3 4", 2);
        run.is(1, "table(1)");
        run.is(1, "take(0, 1)");
        run.is(1, "node(2, 1)");
        run.gives("", 2);
    }

    private static void testScan(Due due) {
        due.sentence("Queries", "A node has columns, and gives a row of rows:",
            "A SCAN of a table gives its rows in their order.");
        due.also("Promise 5", "Makes a scan.", "`table`: a table");
        Run run = new Run(due);
        run.is(0, "table(3)");
        run.is(0, "scan(0)");
        run.is(3, "node(0, 3)");
        run.gives("", 0);
        run.is(1, "add(0, 3, -1000, 1)");
        run.gives("3 - 1", 0);
        for (int row = 2; row <= 10; row++) {
            run.is(row, Calls.tell("add", 0, 10 - row, row % 2, -row));
        }
        run.gives("3 - 1|8 0 -2|7 1 -3|6 0 -4|5 1 -5|4 0 -6|3 1 -7|2 0 -8|1 1 -9|0 0 -10", 0);
        run.is(0, "scan(0)");
        run.refuses(Due.BOUNDS, "node(1, 0)");
    }

    private static void testScanOfNoTable(Due due) {
        due.sentence("Promise 5", "Throws `IndexOutOfBoundsException` if there is no such table");
        Run run = new Run(due);
        run.refuses(Due.BOUNDS, "scan(0)", "scan(-1)");
        run.is(0, "table(1)");
        run.refuses(Due.BOUNDS, "scan(1)", "scan(-1)", "scan(4)", "scan(min)", "scan(max)");
        run.is(0, "scan(0)");
        run.counts(1, "table(1)", "table(1)", "table(1)");
        run.refuses(Due.BOUNDS, "scan(4)");
        run.is(1, "scan(3)");
    }

    private static void testComparisons(Due due) {
        due.sentence("Queries", "A FILTER (a column, a comparison, a value) gives those rows of a node, in their order, "
            + "for which the comparison of the column with the value is true: 0 equal, 1 unlike, 2 less, 3 greater;",
            "4 the column is unknown, 5 it is known (for these two the value does not matter).");
        due.also("Promise 6", "Makes a filter.", "`column`: a column of it, from 0", "`comparison`: 0 to 5");
        String[][] wants = {
            {"0, -99", "-99"}, {"0, 99", "99"}, {"0, 0", "0"}, {"0, 50", ""},
            {"1, -99", "99|0|-98|98"}, {"1, 99", "-99|0|-98|98"}, {"1, 50", "-99|99|0|-98|98"},
            {"2, -99", ""}, {"2, -98", "-99"}, {"2, 99", "-99|0|-98|98"}, {"2, 98", "-99|0|-98"},
            {"3, 99", ""}, {"3, 98", "99"}, {"3, -99", "99|0|-98|98"}, {"3, -98", "99|0|98"},
            {"4, 0", "-|-"}, {"5, 0", "-99|99|0|-98|98"}};
        Run run = new Run(due);
        run.table(0, 1, "-99|-|99|0|-98|98|-");
        run.is(0, "scan(0)");
        for (int i = 0; i < wants.length; i++) {
            run.is(i + 1, "filter(0, 0, " + wants[i][0] + ")");
            run.gives(wants[i][1], i + 1);
        }
    }

    private static void testFilterOfAllAndOfNone(Due due) {
        due.sentence("Queries", "gives those rows of a node, in their order, for which the comparison of the column");
        Run run = new Run(due);
        run.table(0, 3, "1 2 3|- - -|1 2 3|4 5 6");
        run.is(1, "table(1)");
        run.counts(0, "scan(0)", "filter(0, 2, 1, 50)", "filter(0, 2, 0, 50)", "filter(2, 0, 5, 0)", "filter(2, 0, 4, 0)",
            "scan(1)", "filter(5, 0, 0, 0)", "filter(5, 0, 4, 0)", "filter(5, 0, 5, 0)", "filter(1, 2, 3, 3)",
            "filter(0, 0, 3, 3)", "filter(0, 1, 3, 3)");
        String[] wants = {"1 2 3|- - -|1 2 3|4 5 6", "1 2 3|1 2 3|4 5 6", "", "", "", "", "", "", "", "4 5 6",
            "4 5 6", "4 5 6"};
        for (int node = 0; node < wants.length; node++) {
            run.gives(wants[node], node);
        }
    }

    private static void testFilterOutOfRange(Due due) {
        due.sentence("Promise 6", "`value`: -99 to 99; 0 for 4 and 5",
            "Throws `IllegalArgumentException` if comparison or value is out of range");
        Run run = new Run(due);
        run.table(0, 1, "1|-");
        run.is(0, "scan(0)");
        for (int comparison = 0; comparison < 4; comparison++) {
            String call = "filter(0, 0, " + comparison + ", ";
            run.refuses(Due.ARGUMENT, call + "100)", call + "-100)", call + "-1000)", call + "min)", call + "max)");
            run.is(2 * comparison + 1, call + "99)");
            run.is(2 * comparison + 2, call + "-99)");
        }
        for (int comparison = 4; comparison < 6; comparison++) {
            String call = "filter(0, 0, " + comparison + ", ";
            run.refuses(Due.ARGUMENT, call + "1)", call + "-1)", call + "99)", call + "-99)", call + "100)",
                call + "-1000)", call + "min)", call + "max)");
            run.is(comparison + 5, call + "0)");
        }
        run.refuses(Due.ARGUMENT, "filter(0, 0, -1, 0)", "filter(0, 0, 6, 0)", "filter(0, 0, min, 0)",
            "filter(0, 0, max, 0)", "filter(0, 0, 6, 100)");
    }

    private static void testFilterOfNoColumn(Due due) {
        due.sentence("Promise 6", "`node`: a node", "Throws `IndexOutOfBoundsException` if there is no such node or column");
        Run run = new Run(due);
        run.is(0, "table(1)");
        run.is(1, "table(3)");
        run.counts(0, "scan(0)", "scan(1)", "join(1, 1, 0, 0, 1)", "group(2, 5, 4, 5)");
        int[] widths = {1, 3, 6, 2};
        for (int node = 0; node < widths.length; node++) {
            String call = "filter(" + node + ", ";
            run.refuses(Due.BOUNDS, call + "-1, 0, 0)", call + widths[node] + ", 0, 0)", call + "6, 0, 0)",
                call + "min, 0, 0)", call + "max, 0, 0)");
            run.is(node + 4, call + (widths[node] - 1) + ", 0, 0)");
        }
        run.refuses(Due.BOUNDS, "filter(8, 0, 0, 0)", "filter(-1, 0, 0, 0)", "filter(24, 0, 0, 0)",
            "filter(min, 0, 0, 0)", "filter(max, 0, 0, 0)");
    }

    /** Makes joins of all kinds of two nodes, from this number on, which are to give these rows. */
    private static void givesOfJoins(Run run, int next, int first, int second, String... wants) {
        for (int kind = 0; kind < 5; kind++) {
            run.is(next + kind, Calls.tell("join", first, second, 0, 0, kind));
            run.gives(wants[kind], next + kind);
        }
    }

    private static void testJoinOfNothing(Due due) {
        due.sentence("Queries", "0 INNER: for each two that meet both rows, side by side.",
            "1 LEFT: likewise, and for a row of the first node that meets none that row, with unknown values for the "
            + "columns of the second one.", "2 SEMI: each row of the first node that meets some.",
            "3 ANTI: each row of the first node that meets none.", "with no rows of the second node each is).");
        due.also("Promise 7", "Makes a join.", "`first`: a node", "`second`: a node, perhaps the same");
        Run run = new Run(due);
        run.table(0, 1, "1|-");
        run.is(1, "table(2)");
        run.is(0, "scan(0)");
        run.is(1, "scan(1)");
        givesOfJoins(run, 2, 0, 1, "", "1 - -|- - -", "", "1|-", "1|-");
        givesOfJoins(run, 7, 1, 0, "", "", "", "", "");
        givesOfJoins(run, 12, 1, 1, "", "", "", "", "");
        int[] columns = {3, 3, 1, 1, 1, 3, 3, 2, 2, 2, 4, 4, 2, 2, 2};
        for (int node = 2; node < 17; node++) {
            run.is(columns[node - 2], "node(" + node + ", 3)");
        }
    }

    private static void testJoinOfUnknown(Due due) {
        due.sentence("Queries", "two rows meet if both columns are equal (unknown ones never).");
        Run run = new Run(due);
        run.table(0, 1, "-|1|-");
        run.table(1, 1, "-");
        run.table(2, 1, "-|1");
        run.counts(0, "scan(0)", "scan(1)", "scan(2)");
        givesOfJoins(run, 3, 0, 1, "", "- -|1 -|- -", "", "-|1|-", "");
        givesOfJoins(run, 8, 0, 2, "1 1", "- -|1 1|- -", "1", "-|-", "");
        givesOfJoins(run, 13, 1, 0, "", "- -", "", "-", "");
    }

    private static void testJoinOfAllThatMeet(Due due) {
        due.sentence("Queries", "A JOIN (a kind, a column of the first node, a column of the second one) goes through the "
            + "rows of the first node, and for each through those of the second one, in their order;");
        due.also("Promise 7", "`column`: a column of the first one", "`secondColumn`: a column of the second one");
        Run run = new Run(due);
        run.table(0, 2, "8 99|9 99|7 -99");
        run.table(1, 3, "1 2 99|3 4 -99|5 6 99");
        run.is(0, "scan(0)");
        run.is(1, "scan(1)");
        run.is(2, "join(0, 1, 1, 2, 0)");
        run.gives("8 99 1 2 99|8 99 5 6 99|9 99 1 2 99|9 99 5 6 99|7 -99 3 4 -99", 2);
        run.is(3, "join(0, 1, 1, 2, 1)");
        run.is(1, "same(2, 3)");
        run.is(4, "join(0, 1, 1, 2, 2)");
        run.gives("8 99|9 99|7 -99", 4);
        run.is(5, "join(0, 1, 1, 2, 3)");
        run.gives("", 5);
        run.is(6, "join(0, 1, 1, 2, 4)");
        run.gives("", 6);
        run.is(7, "join(1, 0, 2, 1, 0)");
        run.gives("1 2 99 8 99|1 2 99 9 99|3 4 -99 7 -99|5 6 99 8 99|5 6 99 9 99", 7);
        run.is(8, "join(0, 0, 1, 1, 0)");
        run.gives("8 99 8 99|8 99 9 99|9 99 8 99|9 99 9 99|7 -99 7 -99", 8);
    }

    private static void testNotIn(Due due) {
        due.sentence("Queries", "4 NOT IN: each row of the first node whose column is unlike the column of each row of the "
            + "second one, all of these comparisons being true (so if one is unknown, it is not there;");
        Run run = new Run(due);
        run.table(0, 1, "1|-|2");
        run.table(1, 1, "1");
        run.table(2, 1, "1|3|-");
        run.table(3, 1, "3|4");
        run.counts(0, "scan(0)", "scan(1)", "scan(2)", "scan(3)", "filter(2, 0, 4, 0)", "filter(1, 0, 4, 0)");
        String[] wants = {"", "2", "", "1|2", "", "1|-|2"};
        for (int second = 0; second < wants.length; second++) {
            run.is(6 + second, Calls.tell("join", 0, second, 0, 0, 4));
            run.gives(wants[second], 6 + second);
        }
        run.is(12, "join(1, 0, 0, 0, 4)");
        run.gives("", 12);
        run.is(13, "join(3, 1, 0, 0, 4)");
        run.gives("3|4", 13);
    }

    private static void testJoinOutOfRange(Due due) {
        due.sentence("Promise 7", "`kind`: 0 to 4", "Throws `IllegalArgumentException` if kind is out of range",
            "Throws `IndexOutOfBoundsException` if there is no such node or column, of either");
        Run run = new Run(due);
        run.is(0, "table(1)");
        run.is(1, "table(3)");
        run.is(0, "scan(0)");
        run.is(1, "scan(1)");
        run.refuses(Due.ARGUMENT, "join(0, 1, 0, 0, -1)", "join(0, 1, 0, 0, 5)", "join(0, 1, 0, 2, min)",
            "join(0, 1, 0, 0, max)");
        run.refuses(Due.BOUNDS, "join(-1, 1, 0, 0, 0)", "join(2, 1, 0, 0, 0)", "join(24, 1, 0, 0, 0)",
            "join(min, 1, 0, 0, 0)", "join(max, 1, 0, 0, 0)", "join(0, -1, 0, 0, 0)", "join(0, 2, 0, 0, 0)",
            "join(0, 24, 0, 0, 0)", "join(0, min, 0, 0, 0)", "join(0, max, 0, 0, 0)");
        run.refuses(Due.BOUNDS, "join(0, 1, -1, 0, 0)", "join(0, 1, 1, 0, 0)", "join(0, 1, min, 0, 0)",
            "join(0, 1, max, 0, 0)", "join(0, 1, 0, -1, 0)", "join(0, 1, 0, 3, 0)", "join(0, 1, 0, min, 0)",
            "join(0, 1, 0, max, 0)", "join(1, 0, 2, 1, 0)", "join(1, 0, 3, 0, 0)");
        run.counts(2, "join(0, 1, 0, 2, 0)", "join(1, 0, 2, 0, 4)");
    }

    private static void testGroups(Due due) {
        due.sentence("Queries", "A GROUP (a column, a kind, a column): for each different value of the first column, "
            + "unknown ones being one, in the order in which they come first, a row of two: that value,",
            "and 0 how many rows, 1 how many rows of which the second column is known, 2 the sum of these, "
            + "3 the least, 4 the greatest of these (2 to 4: unknown without any;");
        due.also("Promise 8", "Makes a group.");
        Run run = new Run(due);
        run.table(0, 2, "- 7|2 -99|- -|2 99|3 -|2 0");
        run.counts(0, "scan(0)", "group(0, 0, 0, 0)", "group(0, 0, 1, 1)", "group(0, 0, 2, 1)", "group(0, 0, 3, 1)",
            "group(0, 0, 4, 1)", "group(0, 0, 1, 0)", "group(0, 0, 2, 0)", "group(0, 1, 0, 0)", "group(0, 1, 4, 0)");
        String[] wants = {"- 2|2 3|3 1", "- 1|2 3|3 0", "- 7|2 0|3 -", "- 7|2 -99|3 -", "- 7|2 99|3 -", "- 0|2 3|3 1",
            "- -|2 6|3 3", "7 1|-99 1|- 2|99 1|0 1", "7 -|-99 2|- 3|99 2|0 2"};
        for (int i = 0; i < wants.length; i++) {
            run.gives(wants[i], i + 1);
            run.is(2, "node(" + (i + 1) + ", 3)");
        }
    }

    private static void testGroupOfNothing(Due due) {
        due.sentence("Queries", "for each different value of the first column");
        Run run = new Run(due);
        run.is(0, "table(1)");
        run.is(0, "scan(0)");
        for (int kind = 0; kind < 5; kind++) {
            run.is(kind + 1, "group(0, 0, " + kind + ", 0)");
            run.gives("", kind + 1);
        }
        run.is(1, "add(0, -1000, 0, 0)");
        for (int kind = 0; kind < 5; kind++) {
            run.gives(kind == 0 ? "- 1" : kind == 1 ? "- 0" : "- -", kind + 1);
        }
        run.is(2, "add(0, -99, 0, 0)");
        for (int kind = 0; kind < 5; kind++) {
            run.gives(kind == 0 ? "- 1|-99 1" : kind == 1 ? "- 0|-99 1" : "- -|-99 -99", kind + 1);
        }
    }

    private static void testCutSums(Due due) {
        due.sentence("Queries", "a sum is cut to -99 to 99");
        Run run = new Run(due);
        run.table(0, 2, "1 99|1 0|2 99|2 1|3 -99|3 0|4 -99|4 -1|5 98|6 -98");
        run.table(1, 2, "1 60|1 60|2 -60|2 -60|3 50|3 49|3 -|4 -50|4 -49|4 -");
        run.counts(0, "scan(0)", "scan(1)", "group(0, 0, 2, 1)", "group(1, 0, 2, 1)", "group(1, 0, 3, 1)",
            "group(1, 0, 4, 1)");
        run.gives("1 99|2 99|3 -99|4 -99|5 98|6 -98", 2);
        run.gives("1 99|2 -99|3 99|4 -99", 3);
        run.gives("1 60|2 -60|3 49|4 -50", 4);
        run.gives("1 60|2 -60|3 50|4 -49", 5);
    }

    private static void testSumsPastTheEnds(Due due) {
        due.sentence("Queries", "in the end;");
        Run run = new Run(due);
        run.table(0, 2, "1 99|1 99|1 99|1 -99|1 -99|1 -99|1 5");
        run.table(1, 2, "1 -99|1 -99|1 -99|1 99|1 99|1 99|1 -5");
        run.table(2, 2, "1 -99|1 -99|1 -99|1 -99|1 -99|1 -99|1 -99|1 -99|1 -99|1 -99");
        run.table(3, 2, "1 -10|1 -|2 5");
        run.counts(0, "scan(0)", "scan(1)", "scan(2)", "scan(3)", "bag(2, 3, 0)", "group(0, 0, 2, 1)",
            "group(1, 0, 2, 1)", "group(2, 0, 2, 1)", "group(4, 0, 2, 1)");
        run.gives("1 5", 5);
        run.gives("1 -5", 6);
        run.gives("1 -99", 7);
        run.gives("1 -99|2 5", 8);
    }

    private static void testCountsAbove99(Due due) {
        due.sentence("Queries", "0 and 1 may be above 99).");
        Run run = new Run(due);
        run.table(0, 1, "1|1|1|1|1|1|1|1|1|1");
        run.table(1, 2, "1 -");
        run.counts(0, "scan(0)", "scan(1)", "join(0, 0, 0, 0, 0)", "bag(2, 1, 1)", "bag(2, 2, 0)");
        run.is(5, "filter(2, 0, 0, 1)");
        run.is(6, "group(2, 0, 0, 0)");
        run.gives("1 100", 6);
        run.is(7, "group(4, 0, 0, 0)");
        run.gives("1 200", 7);
        run.is(8, "group(4, 1, 1, 0)");
        run.gives("1 200", 8);
        run.is(9, "join(2, 1, 0, 0, 0)");
        run.is(10, "group(9, 0, 1, 3)");
        run.gives("1 0", 10);
        run.is(11, "group(9, 0, 1, 2)");
        run.gives("1 100", 11);
        run.counts(12, "group(7, 0, 3, 1)", "group(7, 0, 4, 1)", "group(7, 0, 2, 1)", "filter(7, 1, 3, 99)",
            "filter(7, 1, 2, 99)", "filter(7, 1, 1, 99)");
        run.gives("1 200", 12);
        run.gives("1 200", 13);
        run.gives("1 99", 14);
        run.gives("1 200", 15);
        run.gives("", 16);
        run.gives("1 200", 17);
        run.table(2, 2, "1 1");
        run.counts(18, "scan(2)", "bag(2, 18, 1)", "group(19, 0, 0, 0)", "group(19, 0, 1, 1)");
        run.gives("1 99", 20);
        run.gives("1 99", 21);
    }

    private static void testGroupOutOfRange(Due due) {
        due.sentence("Promise 8", "`node`: a node", "`by`: a column of it", "`kind`: 0 to 4",
            "`column`: a column of it; 0 for the kind 0 (it is no column then)",
            "Throws `IndexOutOfBoundsException` if there is no such node or column",
            "Throws `IllegalArgumentException` if kind is out of range, or column is not 0 for the kind 0");
        Run run = new Run(due);
        run.table(0, 3, "1 2 3");
        run.is(0, "scan(0)");
        run.refuses(Due.BOUNDS, "group(-1, 0, 0, 0)", "group(1, 0, 0, 0)", "group(24, 0, 0, 0)", "group(min, 0, 0, 0)",
            "group(max, 0, 0, 0)", "group(0, -1, 0, 0)", "group(0, 3, 0, 0)", "group(0, min, 0, 0)",
            "group(0, max, 0, 0)");
        for (int kind = 1; kind < 5; kind++) {
            String call = "group(0, 2, " + kind + ", ";
            run.refuses(Due.BOUNDS, call + "-1)", call + "3)", call + "min)", call + "max)");
            run.is(kind, call + "2)");
        }
        run.refuses(Due.ARGUMENT, "group(0, 0, -1, 0)", "group(0, 0, 5, 0)", "group(0, 0, min, 0)", "group(0, 2, max, 2)");
        run.refuses(Due.ARGUMENT, "group(0, 0, 0, 1)", "group(0, 0, 0, 2)", "group(0, 0, 0, 3)", "group(0, 0, 0, -1)",
            "group(0, 0, 0, min)", "group(0, 0, 0, max)");
        run.is(5, "group(0, 0, 0, 0)");
    }

    private static void testBags(Due due) {
        due.sentence("Queries", "A BAG of two nodes with as many columns: 0 ALL: the rows of the first one, then those of "
            + "the second one;", "1 EXCEPT: the rows of the first one, in their order, but for each row of the second one, in "
            + "their order, the first that is the same and is there still (unknown values being the same here);",
            "2 BOTH: those that EXCEPT takes away, in the order of the first one;",
            "3 ONCE: the rows of ALL, each only where it comes first (unknown values being the same here, too).");
        due.also("Promise 9", "Makes a bag.", "`first`: a node");
        Run run = new Run(due);
        run.table(0, 2, "1 -|2 2|1 -|3 3|1 -");
        run.table(1, 2, "4 4|2 2|1 -|2 2");
        run.is(0, "scan(0)");
        run.is(1, "scan(1)");
        String[] wants = {"1 -|2 2|1 -|3 3|1 -|4 4|2 2|1 -|2 2", "1 -|3 3|1 -", "1 -|2 2", "1 -|2 2|3 3|4 4",
            "4 4|2 2|1 -|2 2|1 -|2 2|1 -|3 3|1 -", "4 4|2 2", "2 2|1 -", "4 4|2 2|1 -|3 3"};
        for (int i = 0; i < wants.length; i++) {
            run.is(i + 2, i < 4 ? Calls.tell("bag", 0, 1, i) : Calls.tell("bag", 1, 0, i - 4));
            run.gives(wants[i], i + 2);
        }
    }

    private static void testBagsWithNothing(Due due) {
        due.sentence("Queries", "1 EXCEPT: the rows of the first one, in their order,",
            "those that EXCEPT takes away, in the order of the first one;");
        Run run = new Run(due);
        run.table(0, 1, "3|-|3");
        run.is(1, "table(1)");
        run.is(0, "scan(0)");
        run.is(1, "scan(1)");
        String[] wants = {"3|-|3", "3|-|3", "", "3|-", "3|-|3", "", "", "3|-", "", "", "", ""};
        int[][] parts = {{0, 1}, {1, 0}, {1, 1}};
        for (int i = 0; i < wants.length; i++) {
            run.is(i + 2, Calls.tell("bag", parts[i / 4][0], parts[i / 4][1], i % 4));
            run.gives(wants[i], i + 2);
        }
    }

    /** A row that was there once, or that nothing but zeros is like, is not taken for one that is there. */
    private static void testBagsOfRowsThatAreGone(Due due) {
        due.sentence("Queries", "but for each row of the second one, in their order, the first that is the same and is "
            + "there still");
        Run run = new Run(due);
        run.table(0, 1, "0|7|0");
        run.is(1, "table(1)");
        run.counts(0, "scan(0)", "scan(1)", "bag(0, 1, 1)", "bag(0, 1, 2)", "bag(1, 0, 1)", "bag(1, 0, 2)");
        String[] wants = {"0|7|0", "", "0|7|0", "", "", ""};
        givesAll(run, wants);
        run.is(1, "add(1, 7, 0, 0)");
        givesAll(run, "0|7|0", "7", "0|0", "7", "", "7");
        run.is(0, "take(1, 0)");
        givesAll(run, wants);
        run.is(2, "take(0, 2)");
        run.is(1, "take(0, 1)");
        run.is(1, "add(1, 7, 0, 0)");
        givesAll(run, "0", "7", "0", "", "7", "");
    }

    private static void givesAll(Run run, String... wants) {
        for (int node = 0; node < wants.length; node++) {
            run.gives(wants[node], node);
        }
    }

    private static void testBagsOfOneNode(Due due) {
        due.sentence("Promise 9", "`second`: a node, perhaps the same");
        Run run = new Run(due);
        run.table(0, 2, "3 -|- -|3 -");
        run.is(0, "scan(0)");
        String[] wants = {"3 -|- -|3 -|3 -|- -|3 -", "", "3 -|- -|3 -", "3 -|- -"};
        for (int kind = 0; kind < 4; kind++) {
            run.is(kind + 1, Calls.tell("bag", 0, 0, kind));
            run.gives(wants[kind], kind + 1);
        }
    }

    private static void testBagOutOfRange(Due due) {
        due.sentence("Promise 9", "`kind`: 0 to 3", "Throws `IndexOutOfBoundsException` if there is no such node, of either",
            "Throws `IllegalArgumentException` if kind is out of range", "or they have unlike numbers of columns");
        Run run = new Run(due);
        run.is(0, "table(1)");
        run.is(1, "table(2)");
        run.counts(0, "scan(0)", "scan(1)", "join(1, 1, 0, 0, 0)", "join(2, 0, 0, 0, 0)", "join(2, 1, 0, 0, 0)");
        run.refuses(Due.BOUNDS, "bag(-1, 0, 0)", "bag(5, 0, 0)", "bag(24, 0, 0)", "bag(min, 0, 0)", "bag(max, 0, 0)",
            "bag(0, -1, 0)", "bag(0, 5, 0)", "bag(0, 24, 0)", "bag(0, min, 0)", "bag(0, max, 0)");
        run.refuses(Due.ARGUMENT, "bag(0, 0, -1)", "bag(0, 0, 4)", "bag(0, 0, min)", "bag(0, 0, max)");
        for (int kind = 0; kind < 4; kind++) {
            run.refuses(Due.STATE, Calls.tell("bag", 0, 1, kind), Calls.tell("bag", 1, 0, kind),
                Calls.tell("bag", 3, 4, kind), Calls.tell("bag", 4, 3, kind));
            run.is(kind + 5, Calls.tell("bag", 4, 4, kind));
        }
    }
}
