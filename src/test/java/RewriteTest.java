/** Promise 15: rewrite. */
public final class RewriteTest {
    /** What a node is, as text. */
    private static String tell(QueryLoft loft, int node) {
        int first = loft.node(node, 1);
        int second = loft.node(node, 2);
        switch (loft.node(node, 0)) {
            case 0:
                return "t" + first;
            case 1:
                return "F" + node + "(" + tell(loft, first) + ")";
            case 2:
                return "J(" + tell(loft, first) + "," + tell(loft, second) + ")";
            case 3:
                return "G(" + tell(loft, first) + ")";
            default:
                return "B(" + tell(loft, first) + "," + tell(loft, second) + ")";
        }
    }

    private static void becomes(Due due, String what, String want, QueryLoft loft, int node) {
        int made = loft.rewrite(node);
        String got = tell(loft, made);
        if (!got.equals(want)) {
            due.tell(what, "became " + got + ", due is " + want);
        }
        due.is(what + ": rewritten once more", made, () -> loft.rewrite(made));
        due.is(what + ": the same rows", 1, () -> loft.same(node, made) ? 1 : 0);
    }

    private static QueryLoft twoTables() {
        QueryLoft loft = new QueryLoft();
        Due.tableOf(loft, 2, "1 10|2 20|- 30|2 -");
        Due.tableOf(loft, 2, "2 5|- 6|2 9|3 10");
        loft.scan(0);
        loft.scan(1);
        return loft;
    }

    private static void testJoins(Due due) {
        for (int kind = 0; kind < 5; kind++) {
            QueryLoft loft = twoTables();
            int join = loft.join(0, 1, 0, 0, kind);
            int filter = loft.filter(join, 1, 3, 9);
            becomes(due, "a column of the first node, kind " + kind, "J(F4(t0),t1)", loft, filter);
            due.is("the parts are made first", 5, () -> loft.rewrite(filter));
        }
        QueryLoft inner = twoTables();
        int first = inner.filter(inner.join(0, 1, 0, 0, 0), 3, 3, 5);
        becomes(due, "a column of the second node, INNER", "J(t0,F4(t1))", inner, first);
        due.is("the filter of the second node", 4, () -> inner.filter(1, 1, 3, 5));
        QueryLoft left = twoTables();
        int second = left.filter(left.join(0, 1, 0, 0, 1), 3, 4, 0);
        due.is("a column of the second node, LEFT", second, () -> left.rewrite(second));
        due.refuses("no node more", Due.BOUNDS, () -> left.node(4, 0));
    }

    /** The least and the greatest filter of the columns where a join's nodes lie side by side. */
    private static void testEdges(Due due) {
        QueryLoft loft = twoTables();
        int join = loft.join(0, 1, 0, 0, 0);
        int least = loft.filter(join, 2, 0, -99);
        becomes(due, "the least filter of the second node", "J(t0,F4(t1))", loft, least);
        due.is("as it is there", 4, () -> loft.filter(1, 0, 0, -99));
        int greatest = loft.filter(join, 1, 3, 99);
        becomes(due, "the greatest filter of the first node", "J(F7(t0),t1)", loft, greatest);
        due.is("as it was", 7, () -> loft.filter(0, 1, 3, 99));
        int known = loft.filter(join, 1, 5, 0);
        becomes(due, "a known one of the first node", "J(F10(t0),t1)", loft, known);
        due.is("known, as it was", 10, () -> loft.filter(0, 1, 5, 0));
        int left = loft.join(0, 1, 0, 0, 1);
        int stuck = loft.filter(left, 2, 0, -99);
        due.is("the least filter of the second node, LEFT", stuck, () -> loft.rewrite(stuck));
    }

    private static void testBags(Due due) {
        QueryLoft loft = twoTables();
        int all = loft.filter(loft.bag(0, 1, 0), 0, 0, 2);
        becomes(due, "ALL", "B(F4(t0),F5(t1))", loft, all);
        for (int kind = 1; kind < 4; kind++) {
            int other = loft.filter(loft.bag(0, 1, kind), 0, 0, 2);
            due.is("a bag of kind " + kind, other, () -> loft.rewrite(other));
        }
        QueryLoft grouped = twoTables();
        int group = grouped.filter(grouped.group(0, 0, 0, 0), 0, 0, 2);
        due.is("a group", group, () -> grouped.rewrite(group));
        int parts = grouped.group(grouped.filter(grouped.bag(0, 1, 0), 0, 0, 2), 0, 0, 0);
        becomes(due, "the part of a group", "G(B(F7(t0),F8(t1)))", grouped, parts);
        int scan = grouped.scan(0);
        due.is("a scan", scan, () -> grouped.rewrite(scan));
    }

    private static void testFilters(Due due) {
        QueryLoft loft = twoTables();
        int low = loft.filter(0, 0, 5, 0);
        int lowHigh = loft.filter(low, 1, 0, 5);
        due.is("a greater column goes below", 5, () -> loft.rewrite(lowHigh));
        due.is("the greater column", 4, () -> loft.filter(0, 1, 0, 5));
        due.is("and the lesser above", 5, () -> loft.filter(4, 0, 5, 0));
        due.is("in order stays", 5, () -> loft.rewrite(5));
        int comparison = loft.filter(loft.filter(1, 0, 1, 50), 0, 2, -50);
        due.is("a greater comparison goes below", 9, () -> loft.rewrite(comparison));
        due.is("the greater comparison", 9, () -> loft.filter(loft.filter(1, 0, 2, -50), 0, 1, 50));
        int value = loft.filter(loft.filter(1, 1, 0, -1), 1, 0, 1);
        due.is("a greater value goes below", 13, () -> loft.rewrite(value));
        due.is("the greater value", 13, () -> loft.filter(loft.filter(1, 1, 0, 1), 1, 0, -1));
        int twice = loft.filter(loft.filter(0, 1, 0, 5), 1, 0, 5);
        due.is("the same filter twice stays", twice, () -> loft.rewrite(twice));
    }

    /** A filter of the first node that lies on one of the second node of a LEFT JOIN does not pass that. */
    private static void testStuckFilters(Due due) {
        QueryLoft loft = twoTables();
        int left = loft.join(0, 1, 0, 0, 1);
        int stuck = loft.filter(left, 2, 4, 0);
        int above = loft.filter(stuck, 0, 5, 0);
        due.is("stays above", above, () -> loft.rewrite(above));
        int beneath = loft.filter(loft.filter(left, 0, 5, 0), 2, 4, 0);
        becomes(due, "goes down from beneath", "F9(J(F7(t0),t1))", loft, beneath);
        int greater = loft.filter(above, 3, 4, 0);
        becomes(due, "passes both", "F13(F12(F11(J(t0,t1))))", loft, greater);
    }

    private static void testManyAtOnce(Due due) {
        QueryLoft loft = twoTables();
        int join = loft.join(0, 1, 0, 0, 0);
        int all = loft.bag(join, join, 0);
        int filter = loft.filter(loft.filter(loft.filter(all, 0, 5, 0), 3, 3, 5), 1, 3, 10);
        becomes(due, "three filters of a bag of joins", "B(J(F8(F7(t0)),F9(t1)),J(F8(F7(t0)),F9(t1)))", loft, filter);
        due.is("nodes made from below", 11, () -> loft.rewrite(filter));
        due.is("the join", 10, () -> loft.node(11, 1));
        due.is("the join, too", 10, () -> loft.node(11, 2));
    }

    private static void testLimits(Due due) {
        QueryLoft loft = twoTables();
        due.refuses("no node -1", Due.BOUNDS, () -> loft.rewrite(-1));
        due.refuses("no node 2", Due.BOUNDS, () -> loft.rewrite(2));
        int filter = loft.filter(loft.bag(0, 1, 0), 0, 0, 2);
        int last = 3;
        for (int value = 1; last < 21; value++) {
            last = loft.filter(1, 1, 0, value);
        }
        due.refuses("25 nodes", Due.STATE, () -> loft.rewrite(filter));
        due.refuses("no node is left of that", Due.BOUNDS, () -> loft.node(22, 0));
        due.is("the next node", 22, () -> loft.filter(0, 0, 0, 2));
        due.refuses("25 nodes still", Due.STATE, () -> loft.rewrite(filter));
        due.is("the last node", 23, () -> loft.filter(1, 0, 0, 2));
        due.refuses("25 nodes with one of them", Due.STATE, () -> loft.rewrite(filter));
        due.is("what needs no node", 23, () -> loft.rewrite(23));
        due.refuses("no node 24", Due.BOUNDS, () -> loft.rewrite(24));
        QueryLoft full = twoTables();
        int whole = full.filter(full.bag(0, 1, 0), 0, 0, 2);
        int end = 3;
        for (int value = 1; end < 20; value++) {
            end = full.filter(1, 1, 0, value);
        }
        due.is("24 nodes", 23, () -> full.rewrite(whole));
        due.is("all are there already", 23, () -> full.rewrite(whole));
        due.refuses("a new one", Due.STATE, () -> full.filter(0, 1, 3, 3));
    }

    /** Trees that are far too big to be gone through, made of few nodes. */
    private static void testDeepTrees(Due due) {
        QueryLoft loft = new QueryLoft();
        loft.table(1);
        int node = loft.scan(0);
        for (int level = 0; level < 10; level++) {
            node = loft.bag(node, node, 0);
        }
        int filter = loft.filter(node, 0, 3, 7);
        due.is("a filter of ten bags", 22, () -> loft.rewrite(filter));
        due.is("the lowest is the filter", 1, () -> loft.node(12, 0));
        due.is("the bags above", 21, () -> loft.node(22, 1));
        QueryLoft wide = new QueryLoft();
        wide.table(1);
        int top = wide.scan(0);
        while (top < 23) {
            top = wide.bag(top, top, 0);
        }
        due.is("of 23 bags", 23, () -> wide.rewrite(23));
        QueryLoft mixed = new QueryLoft();
        mixed.table(1);
        int last = mixed.scan(0);
        for (int level = 0; level < 11; level++) {
            last = mixed.bag(mixed.filter(last, 0, 0, level), last, 0);
        }
        int much = last;
        due.refuses("2 to the 11th leaves that are unlike", Due.STATE, () -> mixed.rewrite(much));
        due.refuses("no node is left of that", Due.BOUNDS, () -> mixed.node(23, 0));
    }

    /** What lies between is much bigger than the finished tree: filtered parts become one with others. */
    private static void testPartsBecomeOne(Due due) {
        QueryLoft loft = new QueryLoft();
        loft.table(1);
        int node = loft.scan(0);
        for (int level = 0; level < 6; level++) {
            node = loft.bag(node, node, 0);
        }
        int plain = node;
        int filtered = loft.filter(plain, 0, 0, 1);
        int semi = loft.join(plain, filtered, 0, 0, 2);
        int twice = loft.join(loft.filter(semi, 0, 0, 1), filtered, 0, 0, 2);
        int more = loft.join(loft.filter(twice, 0, 0, 1), loft.filter(filtered, 0, 0, 1), 0, 0, 3);
        due.is("nodes until now", 13, () -> more);
        due.refuses("two filtered bags", Due.STATE, () -> loft.rewrite(more));
        due.is("a filtered bag", 22, () -> loft.rewrite(twice));
        due.is("a filtered bag as a part", 20, () -> loft.node(21, 1));
    }

    public static void main(String[] args) {
        Due due = new Due("RewriteTest");
        testJoins(due);
        testEdges(due);
        testBags(due);
        testFilters(due);
        testStuckFilters(due);
        testManyAtOnce(due);
        testLimits(due);
        testDeepTrees(due);
        testPartsBecomeOne(due);
        due.end();
    }
}
