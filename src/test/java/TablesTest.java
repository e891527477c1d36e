/** Promises 2 to 4: table, add, take. */
public final class TablesTest {
    private static final int UNKNOWN = QueryLoft.UNKNOWN;

    private static void testTable(Due due) {
        QueryLoft loft = new QueryLoft();
        due.refuses("table(0)", Due.ARGUMENT, () -> loft.table(0));
        due.refuses("table(4)", Due.ARGUMENT, () -> loft.table(4));
        due.refuses("table(least)", Due.ARGUMENT, () -> loft.table(Integer.MIN_VALUE));
        due.refuses("table(greatest)", Due.ARGUMENT, () -> loft.table(Integer.MAX_VALUE));
        due.is("table(1)", 0, () -> loft.table(1));
        due.is("table(2)", 1, () -> loft.table(2));
        due.is("table(3)", 2, () -> loft.table(3));
        due.is("table(3) again", 3, () -> loft.table(3));
        due.refuses("a fifth table", Due.STATE, () -> loft.table(1));
        due.refuses("a fifth table out of range", Due.ARGUMENT, () -> loft.table(0));
        for (int table = 0; table < 4; table++) {
            int one = table;
            due.is("columns of table " + one, one == 3 ? 3 : one + 1, () -> loft.node(loft.scan(one), 3));
        }
    }

    private static void testAdd(Due due) {
        QueryLoft loft = new QueryLoft();
        loft.table(1);
        loft.table(2);
        loft.table(3);
        due.is("add", 1, () -> loft.add(0, 99, 0, 0));
        due.is("add the least", 2, () -> loft.add(0, -99, 0, 0));
        due.is("add unknown", 3, () -> loft.add(0, UNKNOWN, 0, 0));
        due.refuses("a too great", Due.ARGUMENT, () -> loft.add(0, 100, 0, 0));
        due.refuses("a too small", Due.ARGUMENT, () -> loft.add(0, -100, 0, 0));
        due.refuses("a near unknown", Due.ARGUMENT, () -> loft.add(0, -999, 0, 0));
        due.refuses("a beside unknown", Due.ARGUMENT, () -> loft.add(0, -1001, 0, 0));
        due.refuses("b without a second column", Due.ARGUMENT, () -> loft.add(0, 0, 1, 0));
        due.refuses("b unknown without a second column", Due.ARGUMENT, () -> loft.add(0, 0, UNKNOWN, 0));
        due.refuses("c without a third column", Due.ARGUMENT, () -> loft.add(1, 0, 1, 1));
        due.refuses("c unknown without a third column", Due.ARGUMENT, () -> loft.add(1, 0, 1, UNKNOWN));
        due.refuses("b out of range", Due.ARGUMENT, () -> loft.add(1, 0, 100, 0));
        due.refuses("c out of range", Due.ARGUMENT, () -> loft.add(2, 0, 0, -100));
        due.is("two columns", 1, () -> loft.add(1, 1, UNKNOWN, 0));
        due.is("three columns", 1, () -> loft.add(2, 1, -99, UNKNOWN));
        due.refuses("no table -1", Due.BOUNDS, () -> loft.add(-1, 0, 0, 0));
        due.refuses("no table 3", Due.BOUNDS, () -> loft.add(3, 0, 0, 0));
        due.refuses("no table goes first", Due.BOUNDS, () -> loft.add(3, 100, 0, 0));
        for (int row = 4; row <= 10; row++) {
            int rows = row;
            due.is("row " + row, row, () -> loft.add(0, rows, 0, 0));
        }
        due.refuses("an eleventh row", Due.STATE, () -> loft.add(0, 1, 0, 0));
        due.refuses("an eleventh row out of range", Due.ARGUMENT, () -> loft.add(0, 1, 1, 0));
        due.gives("table 0", "99|-99|-|4|5|6|7|8|9|10", loft, loft.scan(0));
        due.gives("table 1", "1 -", loft, loft.scan(1));
        due.gives("table 2", "1 -99 -", loft, loft.scan(2));
    }

    private static void testTake(Due due) {
        QueryLoft loft = new QueryLoft();
        int table = Due.tableOf(loft, 3, "1 2 3|4 5 6|7 8 9|- - -");
        int scan = loft.scan(table);
        due.refuses("no table -1", Due.BOUNDS, () -> loft.take(-1, 0));
        due.refuses("no table 1", Due.BOUNDS, () -> loft.take(1, 0));
        due.refuses("row -1", Due.BOUNDS, () -> loft.take(table, -1));
        due.refuses("row 4", Due.BOUNDS, () -> loft.take(table, 4));
        due.is("take the second row", 3, () -> loft.take(table, 1));
        due.gives("the others in their order", "1 2 3|7 8 9|- - -", loft, scan);
        due.is("take the last row", 2, () -> loft.take(table, 2));
        due.is("take the first row", 1, () -> loft.take(table, 0));
        due.gives("what is left", "7 8 9", loft, scan);
        due.is("take what is left", 0, () -> loft.take(table, 0));
        due.refuses("take of nothing", Due.BOUNDS, () -> loft.take(table, 0));
        due.is("add again", 1, () -> loft.add(table, 5, 5, 5));
        due.gives("the new row", "5 5 5", loft, scan);
        for (int row = 2; row <= 10; row++) {
            loft.add(table, row, 0, 0);
        }
        due.refuses("full again", Due.STATE, () -> loft.add(table, 0, 0, 0));
        due.is("take of a full table", 9, () -> loft.take(table, 9));
        due.is("room again", 10, () -> loft.add(table, 0, 0, 0));
    }

    public static void main(String[] args) {
        Due due = new Due("TablesTest");
        testTable(due);
        testAdd(due);
        testTake(due);
        due.end();
    }
}
