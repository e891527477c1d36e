/** The edges that the document names for orders of joins, and for promises 17 to 20. */
final class EdgesOfOrders {
    private static final String SETS = "`tables`: a set of tables, not empty";
    private static final String NO_SET = "Throws `IllegalArgumentException` if tables is empty, or has one that there is not";

    private EdgesOfOrders() {
    }

    static void testAll(Due due) {
        testNumberOfLinks(due);
        testLinkOfNoTable(due);
        testLinkOfOneTable(due);
        testSets(due);
        testLeastEstimates(due);
        testGreatestEstimates(due);
        testEachLinkDivides(due);
        testDivisors(due);
        testLinksInTheSetAlone(due);
        testCostOfATableAlone(due);
        testPlansOfNothing(due);
        testPlansOfFullTables(due);
        testEachSetFirst(due);
        testGreatTableLast(due);
        testSplitOfALink(due);
    }

    private static void testNumberOfLinks(Due due) {
        due.sentence("Orders of joins", "There are LINKS: a column of a table is to be equal to a column of another one; at most 6.");
        due.also("Promise 17", "Tells a link.", "`otherColumn`: a column of that", "Returns how many links there are then.",
            "Throws `IllegalStateException` if there are 6");
        Run run = new Run(due);
        run.table(0, 1, "1|2|3|4|5|6|7|8|9|10");
        run.table(1, 3, "1 1 1|1 1 2");
        run.counts(1, "link(0, 0, 1, 0)", "link(0, 0, 1, 0)", "link(1, 0, 0, 0)", "link(0, 0, 1, 2)", "link(1, 1, 0, 0)");
        run.is(1, "estimate(3)");
        run.is(6, "link(1, 2, 0, 0)");
        run.refuses(Due.STATE, "link(0, 0, 1, 0)", "link(1, 2, 0, 0)", "link(0, 0, 1, 1)");
        run.is(1, "estimate(3)");
        run.is(10, "estimate(1)");
    }

    private static void testLinkOfNoTable(Due due) {
        due.sentence("Promise 17", "`table`: a table", "`column`: a column of it",
            "Throws `IndexOutOfBoundsException` if there is no such table or column, of either");
        Run run = new Run(due);
        run.is(0, "table(1)");
        run.refuses(Due.BOUNDS, "link(0, 0, 1, 0)", "link(1, 0, 0, 0)");
        run.is(1, "table(3)");
        run.refuses(Due.BOUNDS, "link(-1, 0, 1, 0)", "link(2, 0, 1, 0)", "link(4, 0, 1, 0)", "link(min, 0, 1, 0)",
            "link(max, 0, 1, 0)", "link(0, 0, -1, 0)", "link(0, 0, 2, 0)", "link(0, 0, 4, 0)", "link(0, 0, min, 0)",
            "link(0, 0, max, 0)");
        run.refuses(Due.BOUNDS, "link(0, -1, 1, 0)", "link(0, 1, 1, 0)", "link(0, min, 1, 0)", "link(0, max, 1, 0)",
            "link(0, 0, 1, -1)", "link(0, 0, 1, 3)", "link(0, 0, 1, min)", "link(0, 0, 1, max)", "link(1, 3, 0, 0)",
            "link(1, 2, 0, 1)");
        run.is(1, "link(0, 0, 1, 2)");
        run.is(2, "link(1, 2, 0, 0)");
    }

    private static void testLinkOfOneTable(Due due) {
        due.sentence("Promise 17", "`other`: another table", "Throws `IllegalArgumentException` if both tables are the same");
        Run run = new Run(due);
        run.is(0, "table(1)");
        run.is(1, "table(2)");
        run.refuses(Due.ARGUMENT, "link(0, 0, 0, 0)", "link(1, 0, 1, 0)", "link(1, 0, 1, 1)", "link(1, 1, 1, 0)");
        run.refuses(Due.BOUNDS, "link(0, 0, 0, 1)", "link(1, 2, 1, 0)", "link(2, 0, 2, 0)");
        run.is(1, "link(0, 0, 1, 1)");
    }

    private static void testSets(Due due) {
        due.sentence("Promise 18", SETS, NO_SET, "Returns the estimate of a set of tables.", "Returns the estimate.");
        due.also("Promise 19", SETS, NO_SET);
        due.also("Promise 20", SETS, NO_SET);
        for (String name : new String[] {"estimate(", "cost(", "split("}) {
            Run run = new Run(due);
            for (int tables = 0; tables <= 4; tables++) {
                run.refuses(Due.ARGUMENT, name + "0)", name + (1 << tables) + ")", name + ((1 << tables) + 1) + ")",
                    name + "32)", name + "-1)", name + "-8)", name + "min)", name + "max)");
                if (tables < 4) {
                    run.is(tables, "table(1)");
                    run.is(name.equals("cost(") ? tables : 1, name + ((2 << tables) - 1) + ")");
                }
            }
        }
    }

    private static void testLeastEstimates(Due due) {
        due.sentence("Orders of joins", "The estimate of a set of tables is the product of how many rows they have (at least 1 "
            + "each),", "and at least 1.");
        Run run = new Run(due);
        run.counts(0, "table(1)", "table(1)", "table(1)", "table(1)");
        for (int set = 1; set < 16; set++) {
            run.is(1, Calls.tell("estimate", set));
        }
        run.counts(1, "add(1, 5, 0, 0)", "add(1, 6, 0, 0)", "add(1, 7, 0, 0)");
        for (int set = 1; set < 16; set++) {
            run.is((set & 2) == 0 ? 1 : 3, Calls.tell("estimate", set));
        }
        run.counts(1, "link(0, 0, 1, 0)", "link(1, 0, 0, 0)", "link(2, 0, 1, 0)", "link(2, 0, 3, 0)");
        for (int set = 1; set < 16; set++) {
            run.is((set & 2) == 0 || (set & 5) != 0 ? 1 : 3, Calls.tell("estimate", set));
        }
    }

    private static void testGreatestEstimates(Due due) {
        due.sentence("Orders of joins", "divided, for each link between two of them, one by one in their order,",
            "rounded down each time, and at least 1.");
        Run run = runOfFullTables(due);
        int[] wants = {10, 10, 100, 10, 100, 100, 1000, 10, 100, 100, 1000, 100, 1000, 1000, 10000};
        for (int set = 1; set < 16; set++) {
            run.is(wants[set - 1], Calls.tell("estimate", set));
        }
        int[] ofTwo = {10, 1, 1, 1, 1, 1};
        int[] ofThree = {100, 10, 1, 1, 1, 1};
        int[] ofAll = {1000, 100, 10, 1, 1, 1};
        for (int link = 0; link < 6; link++) {
            run.is(link + 1, link % 2 == 0 ? "link(0, 0, 1, 0)" : "link(1, 0, 0, 0)");
            run.is(ofTwo[link], "estimate(3)");
            run.is(ofThree[link], "estimate(7)");
            run.is(ofAll[link], "estimate(15)");
            run.is(1000, "estimate(13)");
        }
    }

    /** Six links of two values each, between all columns that there are: 10000 is halved six times. */
    private static void testEachLinkDivides(Due due) {
        due.sentence("Orders of joins", "for each link between two of them, one by one in their order,");
        Run run = new Run(due);
        for (int table = 0; table < 4; table++) {
            run.table(table, 3, "1 3 7|1 4 7|1 4 7|1 4 7|1 4 7|1 4 7|1 4 7|1 4 7|1 4 7|1 4 7");
        }
        String[] links = {"link(0, 1, 1, 0)", "link(0, 0, 2, 1)", "link(3, 1, 0, 2)", "link(1, 1, 2, 1)",
            "link(1, 2, 3, 1)", "link(2, 1, 3, 0)"};
        int[] wants = {5000, 2500, 1250, 625, 312, 156};
        run.is(10000, "estimate(15)");
        for (int link = 0; link < links.length; link++) {
            run.is(link + 1, links[link]);
            run.is(wants[link], "estimate(15)");
        }
        run.is(125, "estimate(7)");
        run.is(50, "estimate(12)");
        run.is(50, "estimate(3)");
        run.is(9, "take(3, 0)");
        run.is(562, "estimate(15)");
    }

    /** Four tables with ten rows each, which are all unlike. */
    private static Run runOfFullTables(Due due) {
        Run run = new Run(due);
        for (int table = 0; table < 4; table++) {
            run.table(table, 1, "-99|1|2|3|4|5|6|7|8|99");
        }
        return run;
    }

    private static void testDivisors(Due due) {
        due.sentence("Orders of joins", "by the greater number of different known values of both columns (at least 1), rounded "
            + "down each time,");
        Run run = new Run(due);
        run.table(0, 1, "-|-|-");
        run.table(1, 2, "9 -");
        run.is(1, "link(0, 0, 1, 1)");
        run.is(3, "estimate(3)");
        run.is(2, "add(1, 9, 5, 0)");
        run.is(6, "estimate(3)");
        run.is(3, "add(1, 9, 5, 0)");
        run.is(9, "estimate(3)");
        run.is(4, "add(1, 9, 6, 0)");
        run.is(6, "estimate(3)");
        run.is(4, "add(0, 7, 0, 0)");
        run.is(8, "estimate(3)");
        run.counts(5, "add(0, 8, 0, 0)", "add(0, 9, 0, 0)");
        run.is(8, "estimate(3)");
        run.is(3, "take(1, 0)");
        run.is(6, "estimate(3)");
        run.is(2, "take(1, 2)");
        run.is(4, "estimate(3)");
        run.is(5, "take(0, 0)");
        run.is(3, "estimate(3)");
        run.is(2, "link(0, 0, 1, 1)");
        run.is(1, "estimate(3)");
        run.is(3, "link(1, 1, 0, 0)");
        run.is(1, "estimate(3)");
        Run twice = new Run(due);
        twice.table(0, 1, "4|4|-");
        twice.table(1, 1, "-|0|4|0");
        twice.is(12, "estimate(3)");
        twice.is(1, "link(0, 0, 1, 0)");
        twice.is(6, "estimate(3)");
        twice.is(3, "take(1, 2)");
        twice.is(9, "estimate(3)");
    }

    private static void testLinksInTheSetAlone(Due due) {
        due.sentence("Orders of joins", "for each link between two of them,");
        Run run = runOfFullTables(due);
        run.counts(1, "link(0, 0, 2, 0)", "link(3, 0, 1, 0)");
        int[] wants = {10, 10, 100, 10, 10, 100, 100, 10, 100, 10, 100, 100, 100, 100, 100};
        for (int set = 1; set < 16; set++) {
            run.is(wants[set - 1], Calls.tell("estimate", set));
        }
    }

    private static void testCostOfATableAlone(Due due) {
        due.sentence("Orders of joins", "A plan for a set of tables is a tree: a table alone costs nothing;");
        due.also("Promise 19", "Returns what the best plan for a set of tables costs.", "Returns the cost.");
        due.also("Promise 20", "Returns that set; of a table alone itself.");
        Run run = runOfFullTables(due);
        for (int table = 1; table < 16; table *= 2) {
            run.is(0, Calls.tell("cost", table));
            run.is(table, Calls.tell("split", table));
        }
    }

    private static void testPlansOfNothing(Due due) {
        due.sentence("Orders of joins", "two plans for sets that have no table in common together cost what both cost, and the "
            + "estimate of all tables of both.");
        due.also("Promise 20", "Returns how the best plan for a set of tables is put together: the set of its part with the "
            + "lowest table, of several best plans the least set.");
        Run run = new Run(due);
        run.counts(0, "table(1)", "table(2)", "table(3)", "table(1)");
        for (int set = 1; set < 16; set++) {
            run.is(Integer.bitCount(set) - 1, Calls.tell("cost", set));
            run.is(Integer.lowestOneBit(set), Calls.tell("split", set));
        }
    }

    private static void testPlansOfFullTables(Due due) {
        due.sentence("Orders of joins", "The best plan is the cheapest one.");
        due.also("Promise 20", "of several best plans the least set.");
        Run run = runOfFullTables(due);
        int[] costs = {0, 100, 1100, 10200};
        for (int set = 1; set < 16; set++) {
            run.is(costs[Integer.bitCount(set) - 1], Calls.tell("cost", set));
            run.is(set == 15 ? 3 : Integer.lowestOneBit(set), Calls.tell("split", set));
        }
    }

    /** Each set of tables as the first that a new object is asked for, with a link between 0 and 2. */
    private static void testEachSetFirst(Due due) {
        due.sentence("Promise 19", "Returns what the best plan for a set of tables costs.");
        int[] costs = {0, 0, 100, 0, 10, 100, 110, 0, 100, 100, 1100, 100, 110, 1100, 1110};
        int[] parts = {1, 2, 1, 4, 1, 2, 5, 8, 1, 2, 1, 4, 5, 2, 5};
        for (int set = 1; set < 16; set++) {
            Run cost = runOfFullTables(due);
            cost.is(1, "link(2, 0, 0, 0)");
            cost.is(costs[set - 1], Calls.tell("cost", set));
            Run split = runOfFullTables(due);
            split.is(1, "link(2, 0, 0, 0)");
            split.is(parts[set - 1], Calls.tell("split", set));
        }
    }

    /** Ten rows in one table, two in each of the others: it is put to the others last. */
    private static void testGreatTableLast(Due due) {
        due.sentence("Promise 20", "the set of its part with the lowest table,");
        int[] ofAll = {1, 13, 11, 7};
        int[] ofThree = {1, 5, 3};
        for (int great = 0; great < 4; great++) {
            Run run = new Run(due);
            for (int table = 0; table < 4; table++) {
                run.table(table, 1, table == great ? "1|1|1|1|1|1|1|1|1|1" : "1|2");
            }
            run.is(92, "cost(15)");
            run.is(ofAll[great], "split(15)");
            run.is(great == 3 ? 12 : 44, "cost(7)");
            run.is(great == 3 ? 1 : ofThree[great], "split(7)");
        }
    }

    private static void testSplitOfALink(Due due) {
        due.sentence("Promise 20", "of several best plans the least set.");
        Run run = runOfFullTables(due);
        run.is(1, "link(0, 0, 2, 0)");
        run.is(110, "cost(7)");
        run.is(5, "split(7)");
        run.is(1110, "cost(15)");
        run.is(5, "split(15)");
        run.is(2, "link(1, 0, 3, 0)");
        run.is(120, "cost(15)");
        run.is(5, "split(15)");
        run.is(110, "cost(14)");
        run.is(10, "split(14)");
    }
}
