/** The edges that the document names for views and ways, and for promises 21 to 24. */
final class EdgesOfViews {
    private EdgesOfViews() {
    }

    static void testAll(Due due) {
        testNumberOfViews(due);
        testViewOfNoTable(due);
        testViewOfOneTable(due);
        testViewOfNothing(due);
        testRowsAheadOfIt(due);
        testFullAndAllAlike(due);
        testFullAndAllUnlike(due);
        testUnknownBeingTheSame(due);
        testUnknownNeverMeet(due);
        testKeptUp(due);
        testOftenOfNoRow(due);
        testNoView(due);
        testWaysOfNothing(due);
        testWaysOfFullTables(due);
        testWaysOfUnknown(due);
        testWaysOfOneColumn(due);
        testWaysOfNoTable(due);
    }

    private static void testNumberOfViews(Due due) {
        due.sentence("Promise 21", "Makes a view.", "Returns its number.", "Throws `IllegalStateException` if there are 4");
        Run run = new Run(due);
        run.table(0, 1, "1|2");
        run.table(1, 2, "1 2|1 1");
        run.counts(0, "view(0, 1, 0, 0)", "view(0, 1, 0, 0)", "view(1, 0, 1, 0)", "view(0, 1, 0, 1)");
        run.refuses(Due.STATE, "view(0, 1, 0, 0)", "view(1, 0, 0, 0)");
        for (int view = 0; view < 4; view++) {
            run.is(2, Calls.tell("different", view));
        }
        run.is(1, "often(3, 1, 0)");
        run.is(0, "often(0, 1, 0)");
        run.is(1, "often(2, 0, 1)");
        run.refuses(Due.BOUNDS, "different(4)", "often(4, 0, 0)");
    }

    private static void testViewOfNoTable(Due due) {
        due.sentence("Promise 21", "`table`: a table", "`column`: a column of the first one",
            "`otherColumn`: a column of the second one",
            "Throws `IndexOutOfBoundsException` if there is no such table or column, of either");
        Run run = new Run(due);
        run.refuses(Due.BOUNDS, "view(0, 1, 0, 0)");
        run.is(0, "table(1)");
        run.refuses(Due.BOUNDS, "view(0, 1, 0, 0)", "view(1, 0, 0, 0)");
        run.is(1, "table(3)");
        run.refuses(Due.BOUNDS, "view(-1, 1, 0, 0)", "view(2, 1, 0, 0)", "view(4, 1, 0, 0)", "view(min, 1, 0, 0)",
            "view(max, 1, 0, 0)", "view(0, -1, 0, 0)", "view(0, 2, 0, 0)", "view(0, 4, 0, 0)", "view(0, min, 0, 0)",
            "view(0, max, 0, 0)");
        run.refuses(Due.BOUNDS, "view(0, 1, -1, 0)", "view(0, 1, 1, 0)", "view(0, 1, min, 0)", "view(0, 1, max, 0)",
            "view(0, 1, 0, -1)", "view(0, 1, 0, 3)", "view(0, 1, 0, min)", "view(0, 1, 0, max)", "view(1, 0, 3, 0)",
            "view(1, 0, 2, 1)");
        run.is(0, "view(0, 1, 0, 2)");
        run.is(1, "view(1, 0, 2, 0)");
    }

    private static void testViewOfOneTable(Due due) {
        due.sentence("Views", "A view is of an INNER JOIN of two SCANS of unlike tables,");
        due.also("Promise 21", "`other`: another table", "Throws `IllegalArgumentException` if both tables are the same");
        Run run = new Run(due);
        run.is(0, "table(1)");
        run.is(1, "table(2)");
        run.refuses(Due.ARGUMENT, "view(0, 0, 0, 0)", "view(1, 1, 0, 0)", "view(1, 1, 0, 1)", "view(1, 1, 1, 0)");
        run.refuses(Due.BOUNDS, "view(0, 0, 0, 1)", "view(1, 1, 2, 0)", "view(2, 2, 0, 0)");
        run.is(0, "view(0, 1, 0, 1)");
    }

    private static void testViewOfNothing(Due due) {
        due.sentence("Promise 22", "Returns how many different rows a view has.", "Returns how many.");
        due.also("Promise 23", "Throws `IndexOutOfBoundsException` if there is no such view or row, of either");
        Run run = new Run(due);
        run.is(0, "table(1)");
        run.is(1, "table(1)");
        run.is(0, "view(0, 1, 0, 0)");
        run.is(0, "different(0)");
        run.refuses(Due.BOUNDS, "often(0, 0, 0)");
        run.is(1, "add(0, 5, 0, 0)");
        run.is(0, "different(0)");
        run.refuses(Due.BOUNDS, "often(0, 0, 0)", "often(0, 1, 0)");
        run.is(1, "add(1, 5, 0, 0)");
        run.is(1, "different(0)");
        run.is(1, "often(0, 0, 0)");
        run.is(0, "take(0, 0)");
        run.is(0, "different(0)");
        run.refuses(Due.BOUNDS, "often(0, 0, 0)");
    }

    private static void testRowsAheadOfIt(Due due) {
        due.sentence("Views", "with the rows counted: how often each row is there, those that were there ahead of it, too");
        due.also("Promise 23", "Returns how often the row that two rows make is in a view.", "Returns how often;");
        Run run = new Run(due);
        run.is(0, "table(2)");
        run.is(1, "table(1)");
        run.is(0, "view(0, 1, 0, 0)");
        run.counts(1, "add(0, 3, 1, 0)", "add(0, 3, 1, 0)", "add(0, 3, 2, 0)");
        run.counts(1, "add(1, 3, 0, 0)", "add(1, 4, 0, 0)", "add(1, 3, 0, 0)");
        run.is(1, "view(0, 1, 0, 0)");
        run.is(2, "view(1, 0, 0, 0)");
        for (int view = 0; view < 2; view++) {
            run.is(2, Calls.tell("different", view));
            run.is(4, Calls.tell("often", view, 0, 0));
            run.is(4, Calls.tell("often", view, 1, 2));
            run.is(2, Calls.tell("often", view, 2, 2));
            run.is(0, Calls.tell("often", view, 2, 1));
        }
        run.is(2, "different(2)");
        run.is(4, "often(2, 2, 1)");
        run.is(2, "often(2, 0, 2)");
        run.is(0, "often(2, 1, 2)");
    }

    private static void testFullAndAllAlike(Due due) {
        due.sentence("Views", "When a row is added or taken away, it is changed by what that row meets alone.");
        Run run = new Run(due);
        run.table(0, 3, "1 - 99|1 - 99|1 - 99|1 - 99|1 - 99|1 - 99|1 - 99|1 - 99|1 - 99|1 - 99");
        run.table(1, 1, "1|1|1|1|1|1|1|1|1|1");
        run.is(0, "view(0, 1, 0, 0)");
        run.is(1, "different(0)");
        run.is(100, "often(0, 0, 0)");
        run.is(100, "often(0, 9, 9)");
        run.refuses(Due.STATE, "add(0, 1, 1, 1)", "add(1, 1, 0, 0)", "add(1, 2, 0, 0)");
        run.is(100, "often(0, 0, 0)");
        for (int left = 9; left > 0; left--) {
            run.is(left, "take(0, " + left + ")");
            run.is(10 * left, "often(0, 0, 0)");
            run.is(1, "different(0)");
        }
        run.is(0, "take(0, 0)");
        run.is(0, "different(0)");
        run.is(1, "add(0, 1, 5, 5)");
        run.is(10, "often(0, 0, 0)");
    }

    private static void testFullAndAllUnlike(Due due) {
        due.sentence("Promise 22", "Returns how many different rows a view has.");
        Run run = new Run(due);
        run.table(0, 2, "1 0|1 1|1 2|1 3|1 4|1 5|1 6|1 7|1 8|1 -");
        run.table(1, 2, "1 0|1 1|1 2|1 3|1 4|1 5|1 6|1 7|1 8|1 -");
        run.is(0, "view(0, 1, 0, 0)");
        run.is(1, "view(0, 1, 1, 1)");
        run.is(100, "different(0)");
        run.is(9, "different(1)");
        run.is(1, "often(0, 9, 9)");
        run.is(0, "often(1, 9, 9)");
        run.is(1, "often(1, 8, 8)");
        run.is(9, "take(0, 9)");
        run.is(90, "different(0)");
        run.is(9, "different(1)");
        run.is(10, "add(0, 1, 8, 0)");
        run.is(90, "different(0)");
        run.is(9, "different(1)");
        run.is(2, "often(1, 9, 8)");
    }

    private static void testUnknownBeingTheSame(Due due) {
        due.sentence("Views", "(unknown values being the same here).");
        Run run = new Run(due);
        run.table(0, 3, "1 - -|1 - -|1 - 0");
        run.table(1, 2, "- 1|- 1|0 1");
        run.is(0, "view(0, 1, 0, 1)");
        run.is(4, "different(0)");
        run.is(4, "often(0, 0, 1)");
        run.is(2, "often(0, 0, 2)");
        run.is(2, "often(0, 2, 0)");
        run.is(1, "often(0, 2, 2)");
        run.is(4, "add(1, -1000, 1, 0)");
        run.is(6, "often(0, 0, 1)");
        run.is(4, "different(0)");
    }

    private static void testUnknownNeverMeet(Due due) {
        due.sentence("Promise 23", "0 if they do not meet.");
        Run run = new Run(due);
        run.table(0, 1, "-|-|-99|99");
        run.table(1, 1, "-|99|-99");
        run.is(0, "view(0, 1, 0, 0)");
        run.is(2, "different(0)");
        int[][] wants = {{0, 0, 0}, {0, 0, 0}, {0, 0, 1}, {0, 1, 0}};
        for (int row = 0; row < 4; row++) {
            for (int other = 0; other < 3; other++) {
                run.is(wants[row][other], Calls.tell("often", 0, row, other));
            }
        }
        run.is(4, "add(1, -1000, 0, 0)");
        run.is(2, "different(0)");
        run.is(0, "often(0, 1, 3)");
    }

    private static void testKeptUp(Due due) {
        due.sentence("Views", "When a row is added or taken away, it is changed by what that row meets alone.");
        Run run = new Run(due);
        run.table(0, 2, "1 2|2 1");
        run.table(1, 2, "1 1|2 2|- -");
        run.counts(0, "view(0, 1, 0, 0)", "view(0, 1, 1, 1)", "view(1, 0, 0, 1)", "view(1, 0, 1, 1)");
        differ(run, 2, 2, 2, 2);
        run.is(3, "add(0, 1, -1000, 0)");
        differ(run, 3, 2, 2, 2);
        run.is(1, "often(0, 2, 0)");
        run.is(0, "often(1, 2, 2)");
        run.is(4, "add(1, 1, 1, 0)");
        differ(run, 3, 2, 2, 2);
        run.is(2, "often(0, 0, 0)");
        run.is(2, "often(0, 2, 3)");
        run.is(2, "often(2, 0, 1)");
        run.is(3, "take(1, 0)");
        differ(run, 3, 2, 2, 2);
        run.is(1, "often(0, 0, 2)");
        run.is(0, "often(0, 0, 0)");
        run.is(2, "take(0, 0)");
        differ(run, 2, 1, 1, 1);
    }

    private static void differ(Run run, int... wants) {
        for (int view = 0; view < wants.length; view++) {
            run.is(wants[view], Calls.tell("different", view));
        }
    }

    private static void testOftenOfNoRow(Due due) {
        due.sentence("Promise 23", "`view`: a view", "`row`: a row of its first table", "`other`: a row of its second one",
            "Throws `IndexOutOfBoundsException` if there is no such view or row, of either");
        Run run = new Run(due);
        run.table(0, 1, "1|2|3");
        run.table(1, 1, "1|1|1|1|1");
        run.is(0, "view(0, 1, 0, 0)");
        run.is(1, "view(1, 0, 0, 0)");
        run.is(5, "often(0, 0, 4)");
        run.is(0, "often(0, 2, 4)");
        run.is(5, "often(1, 4, 0)");
        run.refuses(Due.BOUNDS, "often(0, -1, 0)", "often(0, 3, 0)", "often(0, 10, 0)", "often(0, min, 0)",
            "often(0, max, 0)", "often(0, 0, -1)", "often(0, 0, 5)", "often(0, 0, 10)", "often(0, 0, min)",
            "often(0, 0, max)", "often(1, 0, 3)", "often(1, 5, 0)");
        run.refuses(Due.BOUNDS, "often(-1, 0, 0)", "often(2, 0, 0)", "often(4, 0, 0)", "often(min, 0, 0)",
            "often(max, 0, 0)");
        run.is(2, "take(0, 0)");
        run.refuses(Due.BOUNDS, "often(0, 2, 0)");
        run.is(0, "often(0, 1, 0)");
    }

    private static void testNoView(Due due) {
        due.sentence("Promise 22", "`view`: a view", "Throws `IndexOutOfBoundsException` if there is no such view");
        Run run = new Run(due);
        run.is(0, "table(1)");
        run.is(1, "table(1)");
        run.refuses(Due.BOUNDS, "different(0)", "different(-1)");
        run.is(0, "view(0, 1, 0, 0)");
        run.refuses(Due.BOUNDS, "different(1)", "different(-1)", "different(4)", "different(min)", "different(max)");
        run.counts(1, "view(0, 1, 0, 0)", "view(0, 1, 0, 0)", "view(0, 1, 0, 0)");
        run.refuses(Due.BOUNDS, "different(4)");
        run.is(0, "different(3)");
    }

    private static void waysAre(Due due, long want, int columns, String rows) {
        Run run = new Run(due);
        run.table(0, columns, rows);
        run.is(want, "ways(0)");
    }

    private static void testWaysOfNothing(Due due) {
        due.sentence("Promise 24", "Returns how many pairs of known values there are, from the first column to the second one "
            + "of a table, over one row or more, one behind the other.", "Returns how many.");
        waysAre(due, 0, 2, "");
        waysAre(due, 0, 3, "");
        waysAre(due, 1, 2, "-99 99");
        waysAre(due, 1, 2, "0 0");
        waysAre(due, 1, 2, "0 0|0 0");
        waysAre(due, 2, 2, "1 2|3 4");
        waysAre(due, 3, 2, "1 2|2 3");
        waysAre(due, 3, 2, "2 3|1 2");
        waysAre(due, 4, 2, "1 2|2 1");
        waysAre(due, 3, 2, "1 1|1 2|2 2");
        waysAre(due, 3, 2, "1 1|1 2|1 3");
        waysAre(due, 3, 3, "1 2 3|2 3 -");
        waysAre(due, 1, 3, "1 2 3|1 2 4");
    }

    private static void testWaysOfFullTables(Due due) {
        due.sentence("Promise 24", "over one row or more, one behind the other.");
        Run chain = new Run(due);
        chain.table(0, 2, "9 10|8 9|7 8|6 7|5 6|4 5|3 4|2 3|1 2|0 1");
        chain.is(55, "ways(0)");
        chain.refuses(Due.STATE, "add(0, 10, 0, 0)");
        chain.is(55, "ways(0)");
        chain.is(9, "take(0, 4)");
        chain.is(25, "ways(0)");
        chain.is(10, "add(0, 10, 6, 0)");
        chain.is(15 + 25, "ways(0)");
        Run ring = new Run(due);
        ring.table(0, 2, "9 0|8 9|7 8|6 7|5 6|4 5|3 4|2 3|1 2|0 1");
        ring.is(100, "ways(0)");
        ring.is(9, "take(0, 0)");
        ring.is(45, "ways(0)");
    }

    private static void testWaysOfUnknown(Due due) {
        due.sentence("Promise 24", "how many pairs of known values there are,");
        waysAre(due, 0, 2, "- -");
        waysAre(due, 0, 2, "1 -|- 1|- -");
        waysAre(due, 0, 3, "1 - 2|- 2 3");
        waysAre(due, 2, 2, "1 2|2 -|- 3|3 4");
        waysAre(due, 3, 2, "1 2|2 -|- 2|2 3|- -");
    }

    private static void testWaysOfOneColumn(Due due) {
        due.sentence("Promise 24", "`table`: a table with 2 columns or more", "Throws `IllegalStateException` if it has 1 column");
        Run run = new Run(due);
        run.counts(0, "table(1)", "table(2)", "table(3)");
        run.refuses(Due.STATE, "ways(0)");
        run.is(0, "ways(1)");
        run.is(0, "ways(2)");
        run.is(1, "add(0, 5, 0, 0)");
        run.refuses(Due.STATE, "ways(0)");
    }

    private static void testWaysOfNoTable(Due due) {
        due.sentence("Promise 24", "Throws `IndexOutOfBoundsException` if there is no such table");
        Run run = new Run(due);
        run.refuses(Due.BOUNDS, "ways(0)", "ways(-1)");
        run.is(0, "table(2)");
        run.refuses(Due.BOUNDS, "ways(1)", "ways(-1)", "ways(4)", "ways(min)", "ways(max)");
        run.counts(1, "table(2)", "table(2)", "table(2)");
        run.refuses(Due.BOUNDS, "ways(4)", "ways(-1)");
        run.is(0, "ways(3)");
    }
}
