/** The edges that the document names for an object, its tables and truth, and for promises 1 to 4. */
final class EdgesOfTables {
    private EdgesOfTables() {
    }

    static void testAll(Due due) {
        testLifeOfAnObject(due);
        testNewObject(due);
        testConstants(due);
        testNumberOfTables(due);
        testNumberOfColumns(due);
        testNumberOfRows(due);
        testOrderOfRows(due);
        testValues(due);
        testValuesWithoutAColumn(due);
        testAddToNoTable(due);
        testTake(due);
        testTakeOfNothing(due);
        testTruth(due);
        testRowsAreTakenWhereTrue(due);
    }

    private static void testLifeOfAnObject(Due due) {
        due.sentence("What it is",
            "An object is used for at most 512 calls after it has been made; what later calls answer is free.");
        Run run = new Run(due);
        run.is(0, "table(1)");
        for (int pair = 0; pair < 255; pair++) {
            run.is(1, "add(0, 5, 0, 0)");
            run.is(0, "take(0, 0)");
        }
        run.is(1, "add(0, 7, 0, 0)");
        Run asking = new Run(due);
        asking.table(0, 1, "1|2");
        asking.is(0, "scan(0)");
        for (int call = 5; call < 512; call++) {
            asking.is(2, "rows(0)");
        }
        asking.is(2, "cell(0, 1, 0)");
    }

    private static void testNewObject(Due due) {
        due.sentence("Promise 1", "Creates an engine without tables.");
        Run run = new Run(due);
        run.refuses(Due.BOUNDS, "add(0, 0, 0, 0)", "take(0, 0)", "scan(0)", "filter(0, 0, 0, 0)",
            "join(0, 0, 0, 0, 0)", "group(0, 0, 0, 0)", "bag(0, 0, 0)", "rows(0)", "cell(0, 0, 0)", "same(0, 0)",
            "steps(0)", "rewrite(0)", "node(0, 0)", "link(0, 0, 1, 0)", "link(0, 0, 0, 0)", "view(0, 1, 0, 0)",
            "view(0, 0, 0, 0)", "different(0)", "often(0, 0, 0)", "ways(0)");
        run.refuses(Due.ARGUMENT, "estimate(0)", "estimate(1)", "cost(0)", "cost(1)", "split(0)", "split(1)");
        run.is(100000, "budget(1)");
        run.is(0, "table(1)");
        run.is(0, "scan(0)");
        run.is(0, "rows(0)");
    }

    private static void testConstants(Due due) {
        due.sentence("Views", "The constants: `NONE = -1`: None.", "`UNKNOWN = -1000`: What tells an unknown value.");
        due.is("NONE", -1, () -> QueryLoft.NONE);
        due.is("UNKNOWN", -1000, () -> QueryLoft.UNKNOWN);
        Run run = new Run(due);
        run.is(0, "table(1)");
        run.is(1, "add(0, -1000, 0, 0)");
        run.is(0, "scan(0)");
        run.is(-1000, "cell(0, 0, 0)");
        run.is(-1, "node(0, 2)");
    }

    private static void testNumberOfTables(Due due) {
        due.sentence("Tables", "Tables are numbered from 0, at most 4;");
        due.also("Promise 2", "Makes a table.", "Returns its number.", "Throws `IllegalStateException` if there are 4");
        Run run = new Run(due);
        for (int table = 0; table < 4; table++) {
            String next = "(" + table;
            run.refuses(Due.BOUNDS, "add" + next + ", 0, 0, 0)", "take" + next + ", 0)", "scan" + next + ")",
                "ways" + next + ")");
            run.refuses(Due.ARGUMENT, "estimate(" + (1 << table) + ")");
            run.is(table, "table(1)");
            run.is(1, "add" + next + ", " + table + ", 0, 0)");
        }
        run.refuses(Due.STATE, "table(1)", "table(2)", "table(3)");
        run.refuses(Due.ARGUMENT, "table(0)", "table(4)");
        run.refuses(Due.BOUNDS, "add(4, 0, 0, 0)", "take(4, 0)", "scan(4)", "ways(4)");
        for (int table = 0; table < 4; table++) {
            run.is(table, "scan(" + table + ")");
            run.gives("" + table, table);
        }
    }

    private static void testNumberOfColumns(Due due) {
        due.sentence("Tables", "a table has 1 to 3 columns,");
        due.also("Promise 2", "`columns`: 1 to 3", "Throws `IllegalArgumentException` if columns is out of range");
        Run run = new Run(due);
        run.refuses(Due.ARGUMENT, "table(0)", "table(-1)", "table(4)", "table(min)", "table(max)");
        run.is(0, "table(1)");
        run.is(1, "table(2)");
        run.is(2, "table(3)");
        for (int table = 0; table < 3; table++) {
            run.is(table, "scan(" + table + ")");
            run.is(table + 1, "node(" + table + ", 3)");
            run.is(1, "add(" + table + ", 0, 0, 0)");
            run.is(0, "cell(" + table + ", 0, " + table + ")");
            run.refuses(Due.BOUNDS, "cell(" + table + ", 0, " + (table + 1) + ")");
        }
    }

    private static void testNumberOfRows(Due due) {
        due.sentence("Tables", "and at most 10 rows,");
        due.also("Promise 3", "Adds a row to a table.", "Returns how many rows it has then.",
            "Throws `IllegalStateException` if it has 10 rows");
        Run run = new Run(due);
        run.is(0, "table(2)");
        run.is(1, "table(1)");
        run.is(0, "scan(0)");
        run.is(0, "rows(0)");
        for (int row = 1; row <= 10; row++) {
            run.is(row, "add(0, " + row + ", 0, 0)");
            run.is(row, "rows(0)");
        }
        run.refuses(Due.STATE, "add(0, 0, 0, 0)", "add(0, -1000, -1000, 0)");
        run.is(10, "rows(0)");
        run.is(1, "add(1, 5, 0, 0)");
        run.is(9, "take(0, 3)");
        run.is(10, "add(0, 11, 0, 0)");
        run.refuses(Due.STATE, "add(0, 12, 0, 0)");
    }

    private static void testOrderOfRows(Due due) {
        due.sentence("Tables", "in the order in which they came.");
        Run run = new Run(due);
        run.table(0, 1, "9|8|7|6|5|4|3|2|1|0");
        run.is(0, "scan(0)");
        run.gives("9|8|7|6|5|4|3|2|1|0", 0);
        run.refuses(Due.STATE, "add(0, 50, 0, 0)");
        run.is(9, "take(0, 0)");
        run.is(10, "add(0, 9, 0, 0)");
        run.gives("8|7|6|5|4|3|2|1|0|9", 0);
        run.is(9, "take(0, 4)");
        run.is(8, "take(0, 8)");
        run.gives("8|7|6|5|3|2|1|0", 0);
    }

    private static void testValues(Due due) {
        due.sentence("Tables", "A value is from -99 to 99, or unknown, told as -1000.");
        due.also("Promise 3", "`a`: the first value: -99 to 99, or UNKNOWN", "`b`: the second one, likewise;",
            "`c`: the third one, likewise;", "Throws `IllegalArgumentException` if a, b or c is out of range");
        for (int columns = 1; columns <= 3; columns++) {
            Run run = new Run(due);
            run.is(0, "table(" + columns + ")");
            run.is(0, "scan(0)");
            for (int column = 0; column < columns; column++) {
                for (String value : new String[] {"-99", "99", "-1000", "0"}) {
                    run.is(1, addTo(column, value));
                    run.is(Integer.parseInt(value), "cell(0, 0, " + column + ")");
                    run.is(0, "take(0, 0)");
                }
                for (String value : new String[] {"-100", "100", "-999", "-1001", "1000", "min", "max"}) {
                    run.refuses(Due.ARGUMENT, addTo(column, value));
                }
            }
        }
    }

    private static void testValuesWithoutAColumn(Due due) {
        due.sentence("Promise 3", "0 without a second column", "0 without a third column");
        for (int columns = 1; columns <= 2; columns++) {
            Run run = new Run(due);
            run.is(0, "table(" + columns + ")");
            for (int column = columns; column < 3; column++) {
                run.refuses(Due.ARGUMENT, addTo(column, "1"), addTo(column, "-1"), addTo(column, "99"),
                    addTo(column, "-99"), addTo(column, "-1000"), addTo(column, "min"), addTo(column, "max"));
            }
            run.is(1, "add(0, 0, 0, 0)");
        }
    }

    /** Adds a row of zeros but for one value. */
    private static String addTo(int column, String value) {
        return "add(0, " + (column == 0 ? value : "0") + ", " + (column == 1 ? value : "0") + ", "
            + (column == 2 ? value : "0") + ")";
    }

    private static void testAddToNoTable(Due due) {
        due.sentence("Promise 3", "`table`: a table", "Throws `IndexOutOfBoundsException` if there is no such table");
        Run run = new Run(due);
        run.is(0, "table(1)");
        run.is(1, "table(3)");
        run.refuses(Due.BOUNDS, "add(-1, 0, 0, 0)", "add(2, 0, 0, 0)", "add(3, 0, 0, 0)", "add(4, 0, 0, 0)",
            "add(min, 0, 0, 0)", "add(max, 0, 0, 0)");
        run.is(1, "add(0, 0, 0, 0)");
        run.is(1, "add(1, 0, 0, 0)");
    }

    private static void testTake(Due due) {
        due.sentence("Promise 4", "Takes a row out of a table.", "`table`: a table", "`row`: 0 for the first one",
            "Returns how many rows it has then.");
        Run run = new Run(due);
        run.table(0, 2, "1 -|2 2|1 -|3 3|1 -|4 4|5 5|6 6|7 7|8 8");
        run.is(0, "scan(0)");
        run.is(9, "take(0, 9)");
        run.is(8, "take(0, 0)");
        run.gives("2 2|1 -|3 3|1 -|4 4|5 5|6 6|7 7", 0);
        run.is(7, "take(0, 3)");
        run.gives("2 2|1 -|3 3|4 4|5 5|6 6|7 7", 0);
        run.refuses(Due.BOUNDS, "take(0, 7)");
        for (int left = 6; left >= 0; left--) {
            run.is(left, "take(0, " + left + ")");
        }
        run.gives("", 0);
        run.is(1, "add(0, 1, 1, 0)");
    }

    private static void testTakeOfNothing(Due due) {
        due.sentence("Promise 4", "Throws `IndexOutOfBoundsException` if there is no such table or row");
        Run run = new Run(due);
        run.is(0, "table(1)");
        run.refuses(Due.BOUNDS, "take(0, 0)", "take(0, -1)", "take(1, 0)", "take(-1, 0)");
        run.is(1, "add(0, 5, 0, 0)");
        run.refuses(Due.BOUNDS, "take(0, 1)", "take(0, -1)", "take(0, 9)", "take(0, 10)", "take(0, min)",
            "take(0, max)", "take(1, 0)", "take(-1, 0)", "take(4, 0)", "take(min, 0)", "take(max, 0)");
        run.is(0, "take(0, 0)");
        run.refuses(Due.BOUNDS, "take(0, 0)");
    }

    private static void testTruth(Due due) {
        due.sentence("Truth",
            "A comparison of two values, one of which is unknown, is unknown; otherwise true or false.");
        Run run = new Run(due);
        run.table(0, 1, "-");
        run.is(0, "scan(0)");
        int node = 1;
        for (int comparison = 0; comparison < 4; comparison++) {
            for (int value = -99; value <= 99; value += 99) {
                run.is(node, Calls.tell("filter", 0, 0, comparison, value));
                run.is(0, Calls.tell("rows", node));
                node++;
            }
        }
        for (int kind = 0; kind < 5; kind++) {
            run.is(node + kind, Calls.tell("join", 0, 0, 0, 0, kind));
        }
        run.gives("", node);
        run.gives("- -", node + 1);
        run.gives("", node + 2);
        run.gives("-", node + 3);
        run.gives("", node + 4);
    }

    private static void testRowsAreTakenWhereTrue(Due due) {
        due.sentence("Truth", "AND, OR and NOT are not needed: a row is taken where a condition is true.");
        Run run = new Run(due);
        run.table(0, 2, "- 1|0 2|- 3");
        run.counts(0, "scan(0)", "filter(0, 0, 0, 0)", "filter(0, 0, 1, 0)", "filter(0, 0, 1, 1)",
            "filter(0, 0, 2, 1)", "filter(0, 0, 2, 0)", "filter(0, 0, 3, -1)", "filter(0, 0, 3, 0)",
            "filter(0, 0, 4, 0)", "filter(0, 0, 5, 0)");
        String[] rows = {"- 1|0 2|- 3", "0 2", "", "0 2", "0 2", "", "0 2", "", "- 1|- 3", "0 2"};
        for (int node = 0; node < rows.length; node++) {
            run.gives(rows[node], node);
        }
    }
}
