/** Promises 17 to 20: link, estimate, cost, split. */
public final class OrdersTest {
    private static QueryLoft fourTables() {
        QueryLoft loft = new QueryLoft();
        Due.tableOf(loft, 2, "1 1|2 1|3 2|4 2|- 3");
        Due.tableOf(loft, 2, "1 1|1 2|2 3|2 4|- 5|- 5");
        Due.tableOf(loft, 1, "1|2|3|4|5|6|7|8");
        Due.tableOf(loft, 3, "1 1 1|2 2 2");
        return loft;
    }

    private static void testLink(Due due) {
        QueryLoft loft = fourTables();
        due.is("a link", 1, () -> loft.link(0, 0, 1, 0));
        due.is("the same once more", 2, () -> loft.link(0, 0, 1, 0));
        due.refuses("no table -1", Due.BOUNDS, () -> loft.link(-1, 0, 1, 0));
        due.refuses("no table 4", Due.BOUNDS, () -> loft.link(4, 0, 1, 0));
        due.refuses("no other table 4", Due.BOUNDS, () -> loft.link(0, 0, 4, 0));
        due.refuses("no other table -1", Due.BOUNDS, () -> loft.link(0, 0, -1, 0));
        due.refuses("no column -1", Due.BOUNDS, () -> loft.link(0, -1, 1, 0));
        due.refuses("no column 2", Due.BOUNDS, () -> loft.link(0, 2, 1, 0));
        due.refuses("no other column 1", Due.BOUNDS, () -> loft.link(0, 0, 2, 1));
        due.refuses("no other column -1", Due.BOUNDS, () -> loft.link(0, 0, 2, -1));
        due.refuses("the same table", Due.ARGUMENT, () -> loft.link(1, 0, 1, 1));
        due.refuses("no column goes ahead of the same table", Due.BOUNDS, () -> loft.link(1, 0, 1, 2));
        for (int link = 3; link <= 6; link++) {
            due.is("link " + link, link, () -> loft.link(3, 2, 2, 0));
        }
        due.refuses("a seventh link", Due.STATE, () -> loft.link(0, 0, 1, 0));
        due.refuses("the same table goes ahead of 6 links", Due.ARGUMENT, () -> loft.link(0, 0, 0, 0));
        due.refuses("no table goes ahead of 6 links", Due.BOUNDS, () -> loft.link(0, 0, 9, 0));
    }

    private static void testEstimate(Due due) {
        QueryLoft loft = fourTables();
        due.is("of a table", 5, () -> loft.estimate(1));
        due.is("of two tables", 30, () -> loft.estimate(3));
        due.is("of all tables", 480, () -> loft.estimate(15));
        loft.link(0, 0, 1, 0);
        due.is("a link, divided by 4", 7, () -> loft.estimate(3));
        due.is("a link to another table", 40, () -> loft.estimate(5));
        due.is("of all tables, divided by 4", 120, () -> loft.estimate(15));
        loft.link(0, 1, 1, 1);
        due.is("rounded down each time", 1, () -> loft.estimate(3));
        due.is("of all tables, divided by 4 and 5", 24, () -> loft.estimate(15));
        loft.link(2, 0, 3, 0);
        due.is("divided by 8", 2, () -> loft.estimate(12));
        loft.link(3, 1, 2, 0);
        due.is("at least 1", 1, () -> loft.estimate(12));
        due.refuses("of no table", Due.ARGUMENT, () -> loft.estimate(0));
        due.refuses("of a fifth table", Due.ARGUMENT, () -> loft.estimate(16));
        due.refuses("of a fifth table, too", Due.ARGUMENT, () -> loft.estimate(17));
        due.refuses("below 0", Due.ARGUMENT, () -> loft.estimate(-1));
        due.refuses("least", Due.ARGUMENT, () -> loft.estimate(Integer.MIN_VALUE));
    }

    private static void testEstimateOfEmptyTables(Due due) {
        QueryLoft loft = new QueryLoft();
        loft.table(1);
        Due.tableOf(loft, 2, "- 1|- 2|- 3");
        due.is("of an empty table", 1, () -> loft.estimate(1));
        due.is("with an empty table", 3, () -> loft.estimate(3));
        loft.link(0, 0, 1, 0);
        due.is("without a known value", 3, () -> loft.estimate(3));
        loft.link(1, 1, 0, 0);
        due.is("the greater number", 1, () -> loft.estimate(3));
        loft.add(0, 5, 0, 0);
        loft.add(0, 5, 0, 0);
        due.is("a value twice counts once", 2, () -> loft.estimate(3));
        loft.add(0, 6, 0, 0);
        due.is("two values divide both times", 1, () -> loft.estimate(3));
        due.refuses("of a table that there is not", Due.ARGUMENT, () -> loft.estimate(4));
    }

    private static void testCost(Due due) {
        QueryLoft loft = fourTables();
        due.is("of a table alone", 0, () -> loft.cost(8));
        due.is("of two tables", 30, () -> loft.cost(3));
        due.is("of three tables without links", 30 + 240, () -> loft.cost(7));
        due.is("of four tables without links", 30 + 16 + 480, () -> loft.cost(15));
        loft.link(0, 0, 1, 0);
        loft.link(2, 0, 3, 0);
        due.is("of two pairs", 7 + 2 + 15, () -> loft.cost(15));
        due.is("of three of them", 7 + 60, () -> loft.cost(7));
        due.refuses("of no table", Due.ARGUMENT, () -> loft.cost(0));
        due.refuses("of a fifth table", Due.ARGUMENT, () -> loft.cost(16));
        due.refuses("below 0", Due.ARGUMENT, () -> loft.cost(-1));
        QueryLoft small = new QueryLoft();
        small.table(1);
        due.is("of an empty table", 0, () -> small.cost(1));
        due.refuses("of a table that there is not", Due.ARGUMENT, () -> small.cost(2));
    }

    private static void testSplit(Due due) {
        QueryLoft loft = fourTables();
        for (int table = 1; table < 16; table *= 2) {
            int alone = table;
            due.is("of a table alone", alone, () -> loft.split(alone));
        }
        due.is("of two tables", 1, () -> loft.split(3));
        due.is("of two others", 4, () -> loft.split(12));
        due.is("the last table joined last", 1 + 2, () -> loft.split(7));
        due.is("of four tables without links", 1 + 2, () -> loft.split(15));
        loft.link(0, 0, 1, 0);
        loft.link(2, 0, 3, 0);
        due.is("two pairs", 3, () -> loft.split(15));
        QueryLoft even = new QueryLoft();
        for (int table = 0; table < 4; table++) {
            Due.tableOf(even, 1, "1|2");
        }
        due.is("cost of three alike", 4 + 8, () -> even.cost(7));
        due.is("the least of three alike", 1, () -> even.split(7));
        due.is("cost of four alike", 4 + 4 + 16, () -> even.cost(15));
        due.is("pairs of four alike", 3, () -> even.split(15));
        due.is("the least of three others", 2, () -> even.split(14));
        due.refuses("of no table", Due.ARGUMENT, () -> loft.split(0));
        due.refuses("of a fifth table", Due.ARGUMENT, () -> loft.split(16));
        due.refuses("below 0", Due.ARGUMENT, () -> loft.split(-8));
    }

    public static void main(String[] args) {
        Due due = new Due("OrdersTest");
        testLink(due);
        testEstimate(due);
        testEstimateOfEmptyTables(due);
        testCost(due);
        testSplit(due);
        due.end();
    }
}
