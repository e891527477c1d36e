/** Promises 5 to 9: scan, filter, join, group, bag. */
public final class QueriesTest {
    private static final int UNKNOWN = QueryLoft.UNKNOWN;

    /** Makes nodes that are all unlike until there are 24. */
    private static void fill(QueryLoft loft, int scan) {
        for (int value = 0; loft.filter(scan, 0, 0, value) < 23; value++) {
            continue;
        }
    }

    private static void testScan(Due due) {
        QueryLoft loft = new QueryLoft();
        Due.tableOf(loft, 2, "1 -|3 4|1 -");
        loft.table(1);
        due.is("scan(0)", 0, () -> loft.scan(0));
        due.is("scan(1)", 1, () -> loft.scan(1));
        due.is("scan(0) again", 0, () -> loft.scan(0));
        due.refuses("scan(-1)", Due.BOUNDS, () -> loft.scan(-1));
        due.refuses("scan(2)", Due.BOUNDS, () -> loft.scan(2));
        due.gives("a scan", "1 -|3 4|1 -", loft, 0);
        due.gives("a scan of nothing", "", loft, 1);
        loft.table(1);
        fill(loft, 0);
        due.is("the same scan with 24 nodes", 1, () -> loft.scan(1));
        due.refuses("a new scan with 24 nodes", Due.STATE, () -> loft.scan(2));
        due.refuses("no table goes first", Due.BOUNDS, () -> loft.scan(3));
    }

    private static void testFilter(Due due) {
        QueryLoft loft = new QueryLoft();
        Due.tableOf(loft, 2, "1 5|2 -|- 7|3 5|2 6");
        int scan = loft.scan(0);
        due.is("the number", 1, () -> loft.filter(scan, 0, 0, 2));
        due.is("the same", 1, () -> loft.filter(scan, 0, 0, 2));
        due.gives("equal", "2 -|2 6", loft, 1);
        due.gives("unlike", "1 5|3 5", loft, loft.filter(scan, 0, 1, 2));
        due.gives("less", "1 5", loft, loft.filter(scan, 0, 2, 2));
        due.gives("greater", "3 5", loft, loft.filter(scan, 0, 3, 2));
        due.gives("unknown", "- 7", loft, loft.filter(scan, 0, 4, 0));
        due.gives("known", "1 5|- 7|3 5|2 6", loft, loft.filter(scan, 1, 5, 0));
        due.is("another value is another node", 7, () -> loft.filter(scan, 0, 0, 3));
        due.is("another column is another node", 8, () -> loft.filter(scan, 1, 0, 2));
        due.gives("of a filter", "2 6", loft, loft.filter(1, 1, 5, 0));
        due.gives("edges of value", "1 5|2 -|3 5|2 6", loft, loft.filter(scan, 0, 3, -99));
        due.gives("edges of value", "1 5|2 -|3 5|2 6", loft, loft.filter(scan, 0, 2, 99));
        due.refuses("no node -1", Due.BOUNDS, () -> loft.filter(-1, 0, 0, 0));
        due.refuses("no node 12", Due.BOUNDS, () -> loft.filter(12, 0, 0, 0));
        due.refuses("no column -1", Due.BOUNDS, () -> loft.filter(scan, -1, 0, 0));
        due.refuses("no column 2", Due.BOUNDS, () -> loft.filter(scan, 2, 0, 0));
        due.refuses("comparison -1", Due.ARGUMENT, () -> loft.filter(scan, 0, -1, 0));
        due.refuses("comparison 6", Due.ARGUMENT, () -> loft.filter(scan, 0, 6, 0));
        due.refuses("value 100", Due.ARGUMENT, () -> loft.filter(scan, 0, 0, 100));
        due.refuses("value -100", Due.ARGUMENT, () -> loft.filter(scan, 0, 3, -100));
        due.refuses("value unknown", Due.ARGUMENT, () -> loft.filter(scan, 0, 0, UNKNOWN));
        due.refuses("value for 4", Due.ARGUMENT, () -> loft.filter(scan, 0, 4, 1));
        due.refuses("value for 5", Due.ARGUMENT, () -> loft.filter(scan, 0, 5, -1));
        due.refuses("no column goes first", Due.BOUNDS, () -> loft.filter(scan, 2, 6, 100));
        fill(loft, scan);
        due.is("the same with 24 nodes", 1, () -> loft.filter(scan, 0, 0, 2));
        due.refuses("a new one with 24 nodes", Due.STATE, () -> loft.filter(scan, 1, 1, 77));
        due.refuses("out of range goes first", Due.ARGUMENT, () -> loft.filter(scan, 1, 1, 100));
        due.refuses("no node goes first", Due.BOUNDS, () -> loft.filter(24, 1, 1, 100));
    }

    private static void testJoin(Due due) {
        QueryLoft loft = new QueryLoft();
        Due.tableOf(loft, 2, "1 10|2 20|- 30|2 -");
        Due.tableOf(loft, 3, "2 5 7|- 6 8|2 9 1");
        Due.tableOf(loft, 1, "");
        int first = loft.scan(0);
        int second = loft.scan(1);
        int empty = loft.scan(2);
        due.is("the number", 3, () -> loft.join(first, second, 0, 0, 0));
        due.is("the same", 3, () -> loft.join(first, second, 0, 0, 0));
        due.is("columns of INNER", 5, () -> loft.node(3, 3));
        due.gives("INNER", "2 20 2 5 7|2 20 2 9 1|2 - 2 5 7|2 - 2 9 1", loft, 3);
        due.gives("LEFT", "1 10 - - -|2 20 2 5 7|2 20 2 9 1|- 30 - - -|2 - 2 5 7|2 - 2 9 1",
            loft, loft.join(first, second, 0, 0, 1));
        due.gives("SEMI", "2 20|2 -", loft, loft.join(first, second, 0, 0, 2));
        due.gives("ANTI", "1 10|- 30", loft, loft.join(first, second, 0, 0, 3));
        due.gives("NOT IN with an unknown one", "", loft, loft.join(first, second, 0, 0, 4));
        due.gives("NOT IN without", "2 20|2 -", loft, loft.join(first, second, 0, 2, 4));
        due.gives("NOT IN, one equal", "2 5 7|2 9 1", loft, loft.join(second, loft.filter(second, 2, 3, 7), 0, 2, 4));
        due.gives("NOT IN of nothing", "1 10|2 20|- 30|2 -", loft, loft.join(first, empty, 0, 0, 4));
        due.gives("ANTI of nothing", "1 10|2 20|- 30|2 -", loft, loft.join(first, empty, 0, 0, 3));
        due.gives("SEMI of nothing", "", loft, loft.join(first, empty, 0, 0, 2));
        due.gives("LEFT of nothing", "1 10 -|2 20 -|- 30 -|2 - -", loft, loft.join(first, empty, 0, 0, 1));
        due.gives("INNER of nothing", "", loft, loft.join(first, empty, 0, 0, 0));
        due.gives("of a node with itself", "1 10 1 10|2 20 2 20|2 20 2 -|2 - 2 20|2 - 2 -",
            loft, loft.join(first, first, 0, 0, 0));
        due.is("six columns", 6, () -> loft.node(loft.join(second, second, 0, 0, 1), 3));
        due.is("columns of SEMI", 5, () -> loft.node(loft.join(3, 3, 0, 0, 2), 3));
        due.is("nodes until now", 19, () -> loft.filter(empty, 0, 0, 1));
        due.refuses("no first -1", Due.BOUNDS, () -> loft.join(-1, 0, 0, 0, 0));
        due.refuses("no second 20", Due.BOUNDS, () -> loft.join(0, 20, 0, 0, 0));
        due.refuses("no column -1", Due.BOUNDS, () -> loft.join(0, 0, -1, 0, 0));
        due.refuses("no column 2", Due.BOUNDS, () -> loft.join(0, 1, 2, 0, 0));
        due.refuses("no second column 2", Due.BOUNDS, () -> loft.join(1, 0, 0, 2, 0));
        due.refuses("no second column -1", Due.BOUNDS, () -> loft.join(1, 0, 0, -1, 0));
        due.refuses("kind -1", Due.ARGUMENT, () -> loft.join(0, 0, 0, 0, -1));
        due.refuses("kind 5", Due.ARGUMENT, () -> loft.join(0, 0, 0, 0, 5));
        due.refuses("no column goes first", Due.BOUNDS, () -> loft.join(0, 0, 0, 2, 5));
        due.refuses("seven columns of INNER", Due.STATE, () -> loft.join(3, 0, 0, 0, 0));
        due.refuses("seven columns of LEFT", Due.STATE, () -> loft.join(0, 3, 0, 0, 1));
        due.refuses("kind goes ahead of columns", Due.ARGUMENT, () -> loft.join(3, 3, 0, 0, 6));
        fill(loft, first);
        due.is("the same with 24 nodes", 3, () -> loft.join(first, second, 0, 0, 0));
        due.refuses("a new one with 24 nodes", Due.STATE, () -> loft.join(first, second, 1, 0, 0));
        due.refuses("kind goes ahead of 24 nodes", Due.ARGUMENT, () -> loft.join(first, second, 1, 0, 5));
    }

    private static void testGroup(Due due) {
        QueryLoft loft = new QueryLoft();
        Due.tableOf(loft, 2, "2 60|- 1|1 -|2 70|- -|2 -|1 -|- -9");
        int scan = loft.scan(0);
        due.is("the number", 1, () -> loft.group(scan, 0, 0, 0));
        due.is("the same", 1, () -> loft.group(scan, 0, 0, 0));
        due.is("columns", 2, () -> loft.node(1, 3));
        due.gives("how many rows", "2 3|- 3|1 2", loft, 1);
        due.gives("how many known", "2 2|- 2|1 0", loft, loft.group(scan, 0, 1, 1));
        due.gives("sum, cut", "2 99|- -8|1 -", loft, loft.group(scan, 0, 2, 1));
        due.gives("least", "2 60|- -9|1 -", loft, loft.group(scan, 0, 3, 1));
        due.gives("greatest", "2 70|- 1|1 -", loft, loft.group(scan, 0, 4, 1));
        due.gives("of the same column", "2 6|- -|1 2", loft, loft.group(scan, 0, 2, 0));
        due.gives("by the second column", "60 1|1 0|- 3|70 1|-9 0", loft, loft.group(scan, 1, 1, 0));
        due.refuses("no node -1", Due.BOUNDS, () -> loft.group(-1, 0, 0, 0));
        due.refuses("no node 8", Due.BOUNDS, () -> loft.group(8, 0, 0, 0));
        due.refuses("no column -1", Due.BOUNDS, () -> loft.group(scan, -1, 0, 0));
        due.refuses("no column 2", Due.BOUNDS, () -> loft.group(scan, 2, 0, 0));
        due.refuses("no second column -1", Due.BOUNDS, () -> loft.group(scan, 0, 1, -1));
        due.refuses("no second column 2", Due.BOUNDS, () -> loft.group(scan, 0, 4, 2));
        due.refuses("a column for kind 0", Due.ARGUMENT, () -> loft.group(scan, 0, 0, 1));
        due.refuses("no column for kind 0", Due.ARGUMENT, () -> loft.group(scan, 0, 0, 2));
        due.refuses("a column below 0 for kind 0", Due.ARGUMENT, () -> loft.group(scan, 0, 0, -1));
        due.refuses("kind -1", Due.ARGUMENT, () -> loft.group(scan, 0, -1, 0));
        due.refuses("kind 5", Due.ARGUMENT, () -> loft.group(scan, 0, 5, 1));
        due.refuses("no column goes ahead of kind", Due.BOUNDS, () -> loft.group(scan, 2, 5, 0));
        due.refuses("no second column goes ahead of kind", Due.BOUNDS, () -> loft.group(scan, 0, 5, 2));
        fill(loft, scan);
        due.is("the same with 24 nodes", 1, () -> loft.group(scan, 0, 0, 0));
        due.refuses("a new one with 24 nodes", Due.STATE, () -> loft.group(scan, 1, 2, 0));
        due.refuses("kind goes first", Due.ARGUMENT, () -> loft.group(scan, 0, 5, 0));
    }

    /** Sums that pass by -1000, and counts above 99, which are not cut. */
    private static void testGreatGroups(Due due) {
        QueryLoft loft = new QueryLoft();
        Due.tableOf(loft, 2, "1 -99|1 -99|1 -99|1 -99|1 -99|1 -99|1 -99|1 -99|1 -99|1 -99");
        Due.tableOf(loft, 2, "1 -10|1 98|1 99");
        int great = loft.scan(0);
        int small = loft.scan(1);
        int both = loft.bag(great, small, 0);
        due.gives("a sum over -1000", "1 -99", loft, loft.group(both, 0, 2, 1));
        due.gives("a sum of -990", "1 -99", loft, loft.group(great, 0, 2, 1));
        due.gives("a sum of 187", "1 99", loft, loft.group(small, 0, 2, 1));
        int square = loft.join(great, great, 0, 0, 0);
        int count = loft.group(square, 0, 0, 0);
        due.gives("a count above 99", "1 100", loft, count);
        due.gives("a count of known above 99", "1 100", loft, loft.group(square, 0, 1, 1));
        due.gives("the least above 99", "1 100", loft, loft.group(count, 0, 3, 1));
        due.gives("the greatest above 99", "1 100", loft, loft.group(count, 0, 4, 1));
        due.gives("the sum of a count", "1 99", loft, loft.group(count, 0, 2, 1));
        due.gives("a filter of a count", "1 100", loft, loft.filter(count, 1, 3, 99));
    }

    private static void testBag(Due due) {
        QueryLoft loft = new QueryLoft();
        Due.tableOf(loft, 2, "1 -|2 2|1 -|3 3|1 -|2 2");
        Due.tableOf(loft, 2, "1 -|9 9|2 2|1 -|9 9");
        Due.tableOf(loft, 1, "4");
        int first = loft.scan(0);
        int second = loft.scan(1);
        int narrow = loft.scan(2);
        due.is("the number", 3, () -> loft.bag(first, second, 0));
        due.is("the same", 3, () -> loft.bag(first, second, 0));
        due.is("columns", 2, () -> loft.node(3, 3));
        due.gives("ALL", "1 -|2 2|1 -|3 3|1 -|2 2|1 -|9 9|2 2|1 -|9 9", loft, 3);
        due.gives("EXCEPT", "3 3|1 -|2 2", loft, loft.bag(first, second, 1));
        due.gives("BOTH", "1 -|2 2|1 -", loft, loft.bag(first, second, 2));
        due.gives("ONCE", "1 -|2 2|3 3|9 9", loft, loft.bag(first, second, 3));
        due.gives("ALL of itself", "4|4", loft, loft.bag(narrow, narrow, 0));
        due.gives("EXCEPT of itself", "", loft, loft.bag(first, first, 1));
        due.gives("BOTH of itself", "1 -|2 2|1 -|3 3|1 -|2 2", loft, loft.bag(first, first, 2));
        due.gives("ONCE of itself", "1 -|9 9|2 2", loft, loft.bag(second, second, 3));
        due.is("the other way round is another one", 11, () -> loft.bag(second, first, 1));
        due.gives("EXCEPT the other way round", "9 9|9 9", loft, 11);
        due.refuses("no first -1", Due.BOUNDS, () -> loft.bag(-1, 0, 0));
        due.refuses("no first 12", Due.BOUNDS, () -> loft.bag(12, 0, 0));
        due.refuses("no second -1", Due.BOUNDS, () -> loft.bag(0, -1, 0));
        due.refuses("no second 12", Due.BOUNDS, () -> loft.bag(0, 12, 0));
        due.refuses("kind -1", Due.ARGUMENT, () -> loft.bag(0, 0, -1));
        due.refuses("kind 4", Due.ARGUMENT, () -> loft.bag(0, 0, 4));
        due.refuses("unlike columns", Due.STATE, () -> loft.bag(first, narrow, 0));
        due.refuses("kind goes ahead of columns", Due.ARGUMENT, () -> loft.bag(first, narrow, 4));
        due.refuses("no node goes ahead of kind", Due.BOUNDS, () -> loft.bag(first, 12, 4));
        fill(loft, first);
        due.is("the same with 24 nodes", 3, () -> loft.bag(first, second, 0));
        due.refuses("a new one with 24 nodes", Due.STATE, () -> loft.bag(second, first, 2));
        due.refuses("kind goes first", Due.ARGUMENT, () -> loft.bag(second, first, 9));
    }

    public static void main(String[] args) {
        Due due = new Due("QueriesTest");
        testScan(due);
        testFilter(due);
        testJoin(due);
        testGroup(due);
        testGreatGroups(due);
        testBag(due);
        due.end();
    }
}
