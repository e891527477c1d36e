/** Promises 21 to 24: view, different, often, ways. */
public final class ViewsTest {
    private static void testView(Due due) {
        QueryLoft loft = new QueryLoft();
        Due.tableOf(loft, 1, "1");
        Due.tableOf(loft, 2, "1 2");
        due.is("a view", 0, () -> loft.view(0, 1, 0, 0));
        due.is("the same once more", 1, () -> loft.view(0, 1, 0, 0));
        due.refuses("no table -1", Due.BOUNDS, () -> loft.view(-1, 1, 0, 0));
        due.refuses("no table 2", Due.BOUNDS, () -> loft.view(2, 1, 0, 0));
        due.refuses("no other table 2", Due.BOUNDS, () -> loft.view(0, 2, 0, 0));
        due.refuses("no column 1", Due.BOUNDS, () -> loft.view(0, 1, 1, 0));
        due.refuses("no column -1", Due.BOUNDS, () -> loft.view(0, 1, -1, 0));
        due.refuses("no other column 2", Due.BOUNDS, () -> loft.view(0, 1, 0, 2));
        due.refuses("no other column -1", Due.BOUNDS, () -> loft.view(0, 1, 0, -1));
        due.refuses("the same table", Due.ARGUMENT, () -> loft.view(1, 1, 0, 1));
        due.refuses("no column goes ahead of the same table", Due.BOUNDS, () -> loft.view(1, 1, 0, 2));
        due.is("another view", 2, () -> loft.view(1, 0, 1, 0));
        due.is("a fourth view", 3, () -> loft.view(1, 0, 0, 0));
        due.refuses("a fifth view", Due.STATE, () -> loft.view(1, 0, 0, 0));
        due.refuses("the same table goes ahead of 4 views", Due.ARGUMENT, () -> loft.view(0, 0, 0, 0));
        due.refuses("no table goes ahead of 4 views", Due.BOUNDS, () -> loft.view(0, 2, 0, 0));
        due.is("rows of the first view", 1, () -> loft.different(0));
        due.is("rows of the third view", 0, () -> loft.different(2));
        due.is("rows of the fourth view", 1, () -> loft.different(3));
    }

    private static void testDifferent(Due due) {
        QueryLoft loft = new QueryLoft();
        Due.tableOf(loft, 2, "1 -|1 -|1 5|- 7");
        Due.tableOf(loft, 1, "1|-|1|2");
        loft.view(0, 1, 0, 0);
        due.is("those there ahead of it", 2, () -> loft.different(0));
        loft.add(1, 1, 0, 0);
        due.is("a row that was there", 2, () -> loft.different(0));
        loft.add(0, 1, 6, 0);
        due.is("a new row", 3, () -> loft.different(0));
        loft.add(0, 2, 6, 0);
        due.is("a row that meets another one", 4, () -> loft.different(0));
        loft.add(0, 3, 6, 0);
        due.is("a row that meets none", 4, () -> loft.different(0));
        loft.take(0, 0);
        due.is("one of two taken", 4, () -> loft.different(0));
        loft.take(0, 0);
        due.is("the other one taken", 3, () -> loft.different(0));
        loft.take(1, 3);
        due.is("a row of the second table taken", 2, () -> loft.different(0));
        due.refuses("no view -1", Due.BOUNDS, () -> loft.different(-1));
        due.refuses("no view 1", Due.BOUNDS, () -> loft.different(1));
    }

    private static void testOften(Due due) {
        QueryLoft loft = new QueryLoft();
        Due.tableOf(loft, 2, "1 -|1 -|1 5|- 7");
        Due.tableOf(loft, 2, "1 3|- 4|1 3|2 3");
        loft.view(0, 1, 0, 0);
        due.is("twice two", 4, () -> loft.often(0, 0, 0));
        due.is("of the other rows", 4, () -> loft.often(0, 1, 2));
        due.is("once two", 2, () -> loft.often(0, 2, 0));
        due.is("rows that do not meet", 0, () -> loft.often(0, 0, 3));
        due.is("unknown rows", 0, () -> loft.often(0, 3, 1));
        due.is("unknown in the second table", 0, () -> loft.often(0, 0, 1));
        loft.add(0, 1, -1000, 0);
        due.is("a row more", 6, () -> loft.often(0, 0, 0));
        due.is("the new row", 6, () -> loft.often(0, 4, 0));
        loft.take(1, 0);
        due.is("a row less", 3, () -> loft.often(0, 0, 1));
        due.is("the rows behind move up", 0, () -> loft.often(0, 0, 0));
        due.refuses("no view -1", Due.BOUNDS, () -> loft.often(-1, 0, 0));
        due.refuses("no view 1", Due.BOUNDS, () -> loft.often(1, 0, 0));
        due.refuses("no row -1", Due.BOUNDS, () -> loft.often(0, -1, 0));
        due.refuses("no row 5", Due.BOUNDS, () -> loft.often(0, 5, 0));
        due.refuses("no other row -1", Due.BOUNDS, () -> loft.often(0, 0, -1));
        due.refuses("no other row 3", Due.BOUNDS, () -> loft.often(0, 0, 3));
        due.is("the last of both", 0, () -> loft.often(0, 4, 2));
    }

    private static long waysOf(String rows) {
        QueryLoft loft = new QueryLoft();
        return loft.ways(Due.tableOf(loft, 2, rows));
    }

    private static void testWays(Due due) {
        due.is("of nothing", 0, () -> waysOf(""));
        due.is("of a row", 1, () -> waysOf("1 2"));
        due.is("of a row round", 1, () -> waysOf("1 1"));
        due.is("of a chain", 6, () -> waysOf("1 2|2 3|3 4"));
        due.is("of a chain told backwards", 6, () -> waysOf("3 4|2 3|1 2"));
        due.is("of a ring", 9, () -> waysOf("1 2|2 3|3 1"));
        due.is("of a ring with a tail", 12, () -> waysOf("1 2|2 3|3 1|1 4"));
        due.is("of a pair twice", 1, () -> waysOf("1 2|1 2"));
        due.is("of two ways to one", 5, () -> waysOf("1 2|1 3|2 4|3 4"));
        due.is("of unknown values", 0, () -> waysOf("1 -|- 2|- -"));
        due.is("not over unknown values", 1, () -> waysOf("1 -|- 2|3 4"));
        due.is("of ten apart", 10, () -> waysOf("1 11|2 12|3 13|4 14|5 15|6 16|7 17|8 18|9 19|10 20"));
        due.is("of ten in a chain", 55, () -> waysOf("9 10|8 9|7 8|6 7|5 6|4 5|3 4|2 3|1 2|0 1"));
        due.is("of ten round", 100, () -> waysOf("9 0|8 9|7 8|6 7|5 6|4 5|3 4|2 3|1 2|0 1"));
        QueryLoft loft = new QueryLoft();
        Due.tableOf(loft, 1, "1");
        Due.tableOf(loft, 3, "1 2 9|2 3 -");
        due.refuses("of 1 column", Due.STATE, () -> loft.ways(0));
        due.is("of 3 columns", 3, () -> loft.ways(1));
        due.refuses("no table -1", Due.BOUNDS, () -> loft.ways(-1));
        due.refuses("no table 2", Due.BOUNDS, () -> loft.ways(2));
    }

    public static void main(String[] args) {
        Due due = new Due("ViewsTest");
        testView(due);
        testDifferent(due);
        testOften(due);
        testWays(due);
        due.end();
    }
}
