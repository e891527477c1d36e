/** The edges that the document names for rewriting, and for promise 15. */
final class EdgesOfRewriting {
    private EdgesOfRewriting() {
    }

    static void testAll(Due due) {
        testFirstNodeOfJoins(due);
        testSecondNodeOfInner(due);
        testSecondNodeOfLeft(due);
        testWidestJoin(due);
        testUnlikeWidths(due);
        testBags(due);
        testBagOfOneNode(due);
        testFiltersChangePlaces(due);
        testWhatStays(due);
        testPartsFirst(due);
        testPartsOfAFilterFirst(due);
        testAsLongAsItCanBeDone(due);
        testWhatCameOfThat(due);
        testFiltersOfLeft(due);
        testFromBelow(due);
        testLastNodesThatFit(due);
        testWhatIsThereAlready(due);
        testFullWithAllThere(due);
        testLongestChains(due);
        testChainsAlikeButForTheLast(due);
        testDeepestTrees(due);
        testNoNode(due);
        testRoomAndBudgetDoNotMatter(due);
    }

    /** Two tables of two columns, and their scans. */
    private static Run runOfTwo(Due due) {
        Run run = new Run(due);
        run.table(0, 2, "1 10|2 20|- 30|2 -");
        run.table(1, 2, "2 5|- 6|2 9|3 10");
        run.is(0, "scan(0)");
        run.is(1, "scan(1)");
        return run;
    }

    /** The node is to become one that is made of these, each of them a new one, which gives the same rows. */
    private static void becomes(Run run, int node, int next, String... made) {
        int top = next + made.length - 1;
        run.is(top, Calls.tell("rewrite", node));
        run.refuses(Due.BOUNDS, Calls.tell("node", top + 1, 0));
        run.counts(next, made);
        run.is(top, Calls.tell("rewrite", top));
        run.is(top, Calls.tell("rewrite", node));
        run.is(1, Calls.tell("same", node, top));
        run.refuses(Due.BOUNDS, Calls.tell("node", top + 1, 0));
    }

    /** The node is to be its own rewritten one, without a new node. */
    private static void stays(Run run, int node, int next) {
        run.is(node, Calls.tell("rewrite", node));
        run.refuses(Due.BOUNDS, Calls.tell("node", next, 0));
    }

    private static void testFirstNodeOfJoins(Due due) {
        due.sentence("Rewriting", "To move a filter down: a FILTER whose node is a JOIN of the kinds 0, 2, 3 or 4, or 1, and "
            + "whose column is one of the first node of that, becomes that JOIN of a FILTER of the first node and of the "
            + "second one;");
        due.also("Promise 15", "Rewrites a node.", "`node`: a node", "Returns number of the node that is the new tree;");
        for (int kind = 0; kind < 5; kind++) {
            for (int column = 0; column < 2; column++) {
                Run run = runOfTwo(due);
                run.is(2, Calls.tell("join", 0, 1, 0, 0, kind));
                run.is(3, Calls.tell("filter", 2, column, 3, 1));
                becomes(run, 3, 4, Calls.tell("filter", 0, column, 3, 1), Calls.tell("join", 4, 1, 0, 0, kind));
            }
        }
    }

    private static void testSecondNodeOfInner(Due due) {
        due.sentence("Rewriting", "of kind 0 and a column of the second node likewise with the second one.");
        for (int column = 0; column < 2; column++) {
            Run run = runOfTwo(due);
            run.is(2, "join(0, 1, 0, 0, 0)");
            run.is(3, Calls.tell("filter", 2, column + 2, 3, 5));
            becomes(run, 3, 4, Calls.tell("filter", 1, column, 3, 5), "join(0, 4, 0, 0, 0)");
        }
    }

    private static void testSecondNodeOfLeft(Due due) {
        due.sentence("Rewriting", "or 1, and whose column is one of the first node of that,");
        due.also("Promise 15", "it may be the same.");
        for (int column = 2; column < 4; column++) {
            for (String filter : new String[] {"0, -99", "0, 99", "1, 0", "2, 0", "3, 99", "4, 0", "5, 0"}) {
                Run run = runOfTwo(due);
                run.is(2, "join(0, 1, 0, 0, 1)");
                run.is(3, "filter(2, " + column + ", " + filter + ")");
                stays(run, 3, 4);
            }
        }
        Run run = runOfTwo(due);
        for (int kind = 2; kind < 5; kind++) {
            run.is(kind, Calls.tell("join", 0, 1, 0, 0, kind));
            run.refuses(Due.BOUNDS, Calls.tell("filter", kind, 2, 4, 0));
        }
    }

    /** The last column of the first node, the first and the last of the second one, with the ends of values. */
    private static void testWidestJoin(Due due) {
        due.sentence("Rewriting", "whose column is one of the first node of that,", "a column of the second node");
        String[][] wants = {
            {"2, 3, 99", "filter(0, 2, 3, 99)", "join(3, 0, 2, 0, 0)"},
            {"2, 5, 0", "filter(0, 2, 5, 0)", "join(3, 0, 2, 0, 0)"},
            {"3, 0, -99", "filter(0, 0, 0, -99)", "join(0, 3, 2, 0, 0)"},
            {"5, 5, 0", "filter(0, 2, 5, 0)", "join(0, 3, 2, 0, 0)"},
            {"5, 3, 99", "filter(0, 2, 3, 99)", "join(0, 3, 2, 0, 0)"}};
        for (String[] want : wants) {
            Run run = new Run(due);
            run.table(0, 3, "1 2 1|-99 2 99|- - -99");
            run.is(0, "scan(0)");
            run.is(1, "join(0, 0, 2, 0, 0)");
            run.is(2, "filter(1, " + want[0] + ")");
            becomes(run, 2, 3, want[1], want[2]);
        }
    }

    /** One column beside three, and three beside one. */
    private static void testUnlikeWidths(Due due) {
        due.sentence("Rewriting", "whose column is one of the first node of that,", "a column of the second node");
        for (int column = 0; column < 4; column++) {
            Run narrow = runOfUnlikeWidths(due, 1, 3, column, 0);
            becomes(narrow, 3, 4, column < 1 ? "filter(0, 0, 1, 9)" : Calls.tell("filter", 1, column - 1, 1, 9),
                column < 1 ? "join(4, 1, 0, 0, 0)" : "join(0, 4, 0, 0, 0)");
            Run wide = runOfUnlikeWidths(due, 3, 1, column, 0);
            becomes(wide, 3, 4, column < 3 ? Calls.tell("filter", 0, column, 1, 9) : "filter(1, 0, 1, 9)",
                column < 3 ? "join(4, 1, 0, 0, 0)" : "join(0, 4, 0, 0, 0)");
            for (int first = 1; first <= 3; first += 2) {
                Run left = runOfUnlikeWidths(due, first, 4 - first, column, 1);
                if (column < first) {
                    becomes(left, 3, 4, Calls.tell("filter", 0, column, 1, 9), "join(4, 1, 0, 0, 1)");
                } else {
                    stays(left, 3, 4);
                }
            }
        }
    }

    /** Two scans, a join (2) and a filter of that (3). */
    private static Run runOfUnlikeWidths(Due due, int first, int second, int column, int kind) {
        Run run = new Run(due);
        run.is(0, Calls.tell("table", first));
        run.is(1, Calls.tell("table", second));
        run.is(1, Calls.tell("add", 0, 1, 0, 0));
        run.is(1, Calls.tell("add", 1, 1, 0, 0));
        run.counts(0, "scan(0)", "scan(1)", Calls.tell("join", 0, 1, 0, 0, kind), Calls.tell("filter", 2, column, 1, 9));
        return run;
    }

    private static void testBags(Due due) {
        due.sentence("Rewriting", "A FILTER whose node is a BAG of the kind 0 becomes that BAG of a FILTER of each;");
        for (int column = 0; column < 2; column++) {
            Run run = runOfTwo(due);
            run.is(2, "bag(0, 1, 0)");
            run.is(3, Calls.tell("filter", 2, column, 0, 2));
            becomes(run, 3, 4, Calls.tell("filter", 0, column, 0, 2), Calls.tell("filter", 1, column, 0, 2), "bag(4, 5, 0)");
        }
        for (int kind = 1; kind < 4; kind++) {
            Run run = runOfTwo(due);
            run.is(2, Calls.tell("bag", 0, 1, kind));
            run.is(3, "filter(2, 0, 0, 2)");
            stays(run, 3, 4);
        }
    }

    private static void testBagOfOneNode(Due due) {
        due.sentence("Rewriting", "becomes that BAG of a FILTER of each;");
        Run run = runOfTwo(due);
        run.is(2, "bag(0, 0, 0)");
        run.is(3, "filter(2, 1, 4, 0)");
        becomes(run, 3, 4, "filter(0, 1, 4, 0)", "bag(4, 4, 0)");
        run.is(6, "filter(5, 0, 5, 0)");
        becomes(run, 6, 7, "filter(4, 0, 5, 0)", "bag(7, 7, 0)");
    }

    private static void testFiltersChangePlaces(Due due) {
        due.sentence("Rewriting", "a FILTER whose node is a FILTER, whose column, then comparison, then value is greater than "
            + "those of the other one, changes places with that.");
        String[][] greaterAndLesser = {{"1, 0, -99", "0, 5, 0"}, {"1, 0, 0", "0, 0, 99"}, {"0, 1, -99", "0, 0, 99"},
            {"0, 4, 0", "0, 3, 99"}, {"0, 5, 0", "0, 4, 0"}, {"0, 0, 1", "0, 0, 0"}, {"0, 0, -98", "0, 0, -99"},
            {"0, 0, 99", "0, 0, 98"}, {"1, 3, -1", "1, 3, -2"}};
        for (String[] pair : greaterAndLesser) {
            Run swapped = runOfTwo(due);
            swapped.is(2, "filter(0, " + pair[1] + ")");
            swapped.is(3, "filter(2, " + pair[0] + ")");
            becomes(swapped, 3, 4, "filter(0, " + pair[0] + ")", "filter(4, " + pair[1] + ")");
            Run there = runOfTwo(due);
            there.is(2, "filter(0, " + pair[0] + ")");
            there.is(3, "filter(2, " + pair[1] + ")");
            stays(there, 3, 4);
        }
        for (String filter : new String[] {"0, 0, -99", "1, 3, 99", "0, 4, 0", "1, 5, 0"}) {
            Run alike = runOfTwo(due);
            alike.is(2, "filter(0, " + filter + ")");
            alike.is(3, "filter(2, " + filter + ")");
            stays(alike, 3, 4);
        }
    }

    private static void testWhatStays(Due due) {
        due.sentence("Promise 15", "it may be the same.");
        Run run = runOfTwo(due);
        run.counts(2, "filter(0, 0, 0, 1)", "group(0, 0, 0, 0)", "filter(3, 1, 3, 1)", "join(2, 1, 0, 0, 1)",
            "bag(2, 4, 0)", "group(6, 0, 2, 1)", "join(0, 0, 0, 0, 0)", "bag(0, 1, 3)", "filter(9, 0, 5, 0)");
        for (int node = 0; node < 11; node++) {
            stays(run, node, 11);
        }
    }

    private static void testPartsFirst(Due due) {
        due.sentence("Rewriting", "To rewrite a node is to make a new tree of it, in which first its parts are rewritten,");
        String[][] wants = {{"group(3, 0, 0, 0)", "group(7, 0, 0, 0)"}, {"join(0, 3, 0, 0, 4)", "join(0, 7, 0, 0, 4)"},
            {"join(3, 0, 1, 0, 1)", "join(7, 0, 1, 0, 1)"}, {"bag(3, 0, 1)", "bag(7, 0, 1)"},
            {"bag(1, 3, 0)", "bag(1, 7, 0)"}, {"bag(3, 3, 3)", "bag(7, 7, 3)"}, {"join(3, 3, 0, 0, 2)", "join(7, 7, 0, 0, 2)"}};
        for (String[] want : wants) {
            Run run = runOfTwo(due);
            run.is(2, "bag(0, 1, 0)");
            run.is(3, "filter(2, 0, 0, 2)");
            run.is(4, want[0]);
            becomes(run, 4, 5, "filter(0, 0, 0, 2)", "filter(1, 0, 0, 2)", "bag(5, 6, 0)", want[1]);
        }
    }

    /** A filter's part is rewritten ahead of it: what lies below has moved then. */
    private static void testPartsOfAFilterFirst(Due due) {
        due.sentence("Rewriting", "in which first its parts are rewritten,");
        Run run = runOfTwo(due);
        run.counts(2, "bag(0, 1, 0)", "filter(2, 0, 0, 2)", "group(3, 0, 0, 0)", "filter(4, 1, 3, 0)");
        becomes(run, 5, 6, "filter(0, 0, 0, 2)", "filter(1, 0, 0, 2)", "bag(6, 7, 0)", "group(8, 0, 0, 0)",
            "filter(9, 1, 3, 0)");
        Run left = runOfTwo(due);
        left.counts(2, "join(0, 1, 0, 0, 1)", "filter(2, 0, 5, 0)", "filter(3, 2, 4, 0)");
        becomes(left, 4, 5, "filter(0, 0, 5, 0)", "join(5, 1, 0, 0, 1)", "filter(6, 2, 4, 0)");
    }

    private static void testAsLongAsItCanBeDone(Due due) {
        due.sentence("Rewriting", "and then, as long as one of these can be done at its top, it is done,");
        Run run = runOfTwo(due);
        run.counts(2, "join(0, 1, 0, 0, 0)", "bag(2, 2, 0)", "filter(3, 3, 3, 5)");
        becomes(run, 4, 5, "filter(1, 1, 3, 5)", "join(0, 5, 0, 0, 0)", "bag(6, 6, 0)");
        Run semi = runOfTwo(due);
        semi.counts(2, "join(0, 1, 0, 0, 2)", "join(2, 1, 0, 0, 3)", "join(3, 1, 0, 0, 4)", "filter(4, 1, 5, 0)");
        becomes(semi, 5, 6, "filter(0, 1, 5, 0)", "join(6, 1, 0, 0, 2)", "join(7, 1, 0, 0, 3)", "join(8, 1, 0, 0, 4)");
    }

    private static void testWhatCameOfThat(Due due) {
        due.sentence("Rewriting", "and what came of that is rewritten.");
        Run greater = runOfTwo(due);
        greater.counts(2, "filter(0, 0, 0, 2)", "join(2, 1, 0, 0, 0)", "filter(3, 1, 3, 9)");
        becomes(greater, 4, 5, "filter(0, 1, 3, 9)", "filter(5, 0, 0, 2)", "join(6, 1, 0, 0, 0)");
        Run lesser = runOfTwo(due);
        lesser.counts(2, "filter(0, 0, 0, 2)", "join(2, 1, 0, 0, 0)", "filter(3, 0, 0, 1)");
        becomes(lesser, 4, 5, "filter(2, 0, 0, 1)", "join(5, 1, 0, 0, 0)");
        Run three = runOfTwo(due);
        three.counts(2, "filter(0, 0, 0, 2)", "filter(2, 0, 5, 0)", "filter(3, 1, 1, 1)");
        becomes(three, 4, 5, "filter(0, 1, 1, 1)", "filter(5, 0, 5, 0)", "filter(6, 0, 0, 2)");
    }

    private static void testFiltersOfLeft(Due due) {
        due.sentence("Rewriting", "as long as one of these can be done at its top,");
        Run run = runOfTwo(due);
        run.counts(2, "join(0, 1, 0, 0, 1)", "filter(2, 2, 4, 0)", "filter(3, 0, 5, 0)", "filter(3, 3, 4, 0)");
        stays(run, 4, 6);
        becomes(run, 5, 6, "filter(2, 3, 4, 0)", "filter(6, 2, 4, 0)");
    }

    private static void testFromBelow(Due due) {
        due.sentence("Rewriting", "Of the finished tree the nodes that are not there yet are made, from below: those of the "
            + "first part, then of the second one, then the node itself.");
        Run run = runOfTwo(due);
        run.counts(2, "join(0, 1, 0, 0, 0)", "filter(2, 0, 3, 1)", "filter(2, 3, 3, 5)", "bag(3, 4, 1)");
        becomes(run, 5, 6, "filter(0, 0, 3, 1)", "join(6, 1, 0, 0, 0)", "filter(1, 1, 3, 5)", "join(0, 8, 0, 0, 0)",
            "bag(7, 9, 1)");
        Run turned = runOfTwo(due);
        turned.counts(2, "join(0, 1, 0, 0, 0)", "filter(2, 0, 3, 1)", "filter(2, 3, 3, 5)", "bag(4, 3, 2)");
        becomes(turned, 5, 6, "filter(1, 1, 3, 5)", "join(0, 6, 0, 0, 0)", "filter(0, 0, 3, 1)", "join(8, 1, 0, 0, 0)",
            "bag(7, 9, 2)");
        Run there = runOfTwo(due);
        there.counts(2, "join(0, 1, 0, 0, 0)", "filter(2, 0, 3, 1)", "filter(2, 3, 3, 5)", "bag(3, 4, 1)",
            "filter(1, 1, 3, 5)");
        there.is(10, "rewrite(5)");
        there.counts(7, "filter(0, 0, 3, 1)", "join(7, 1, 0, 0, 0)", "join(0, 6, 0, 0, 0)", "bag(8, 9, 1)");
    }

    /** Three nodes that are not there: they fit behind the 21st, and not behind the 22nd. */
    private static void testLastNodesThatFit(Due due) {
        due.sentence("Promise 15", "Throws `IllegalStateException` if there would be more than 24 nodes");
        Run fits = runOfTwo(due);
        fits.counts(2, "bag(0, 1, 0)", "filter(2, 0, 0, 2)");
        fits.fillNodes(4, 20);
        fits.is(23, "rewrite(3)");
        fits.counts(21, "filter(0, 0, 0, 2)", "filter(1, 0, 0, 2)", "bag(21, 22, 0)");
        fits.is(23, "rewrite(3)");
        fits.refuses(Due.STATE, "filter(0, 0, 0, 3)");
        for (int last = 21; last < 24; last++) {
            Run full = runOfTwo(due);
            full.counts(2, "bag(0, 1, 0)", "filter(2, 0, 0, 2)");
            full.fillNodes(4, last);
            full.refuses(Due.STATE, "rewrite(3)");
            full.refuses(Due.BOUNDS, Calls.tell("node", last + 1, 0));
            full.is(3, "filter(2, 0, 0, 2)");
            full.fillNodes(last + 1, 23);
            full.refuses(Due.STATE, "rewrite(3)");
            full.is(2, "rewrite(2)");
            full.is(23, "rewrite(23)");
        }
    }

    private static void testWhatIsThereAlready(Due due) {
        due.sentence("Promise 15", "if there would be more than 24 nodes");
        String[] made = {"filter(0, 0, 0, 2)", "filter(1, 0, 0, 2)"};
        for (String there : made) {
            Run run = runOfTwo(due);
            run.counts(2, "bag(0, 1, 0)", "filter(2, 0, 0, 2)", there);
            run.fillNodes(5, 21);
            run.is(23, "rewrite(3)");
            Run full = runOfTwo(due);
            full.counts(2, "bag(0, 1, 0)", "filter(2, 0, 0, 2)", there);
            full.fillNodes(5, 22);
            full.refuses(Due.STATE, "rewrite(3)");
            full.is(23, there.replace("2)", "50)"));
            full.is(4, there);
        }
        Run last = runOfTwo(due);
        last.counts(2, "bag(0, 1, 0)", "filter(2, 0, 0, 2)", made[1], made[0]);
        last.fillNodes(6, 22);
        last.is(23, "rewrite(3)");
        last.is(5, "node(23, 1)");
        last.is(4, "node(23, 2)");
        Run none = runOfTwo(due);
        none.counts(2, "bag(0, 1, 0)", "filter(2, 0, 0, 2)", made[1], made[0]);
        none.fillNodes(6, 23);
        none.refuses(Due.STATE, "rewrite(3)");
    }

    private static void testFullWithAllThere(Due due) {
        due.sentence("Promise 5", "a node that is the same as an earlier one is that (also when there are 24), here and below.");
        Run run = runOfTwo(due);
        run.counts(2, "bag(0, 1, 0)", "filter(2, 0, 0, 2)", "filter(1, 0, 0, 2)", "filter(0, 0, 0, 2)", "bag(5, 4, 0)");
        run.fillNodes(7, 23);
        run.is(6, "rewrite(3)");
        run.is(6, "rewrite(6)");
        run.is(0, "rewrite(0)");
        run.is(23, "rewrite(23)");
        run.is(6, "rewrite(3)");
        run.refuses(Due.STATE, "bag(4, 5, 0)");
    }

    /** Filters of which each changes places with all others: eleven fit, with one node more, and twelve do not. */
    private static void testLongestChains(Due due) {
        due.sentence("Promise 15", "Returns number of the node that is the new tree;",
            "Throws `IllegalStateException` if there would be more than 24 nodes");
        for (int filters = 11; filters <= 12; filters++) {
            Run run = new Run(due);
            run.table(0, 1, "5|-");
            run.is(0, "scan(0)");
            for (int value = 1; value <= filters; value++) {
                run.is(value, Calls.tell("filter", value - 1, 0, 1, value));
            }
            if (filters == 12) {
                run.refuses(Due.STATE, "rewrite(12)");
                run.is(11 + 12, "rewrite(11)");
                run.refuses(Due.STATE, "rewrite(12)");
            } else {
                run.is(12, "filter(0, 0, 0, 50)");
                run.is(23, "rewrite(11)");
                run.is(13, "filter(0, 0, 1, 11)");
                run.is(14, "filter(13, 0, 1, 10)");
                run.is(23, "filter(22, 0, 1, 1)");
                run.refuses(Due.STATE, "filter(23, 0, 1, 0)");
            }
        }
    }

    /** Two parts with many filters above one scan, of which the last alone is unlike. */
    private static void testChainsAlikeButForTheLast(Due due) {
        due.sentence("Rewriting", "to make a new tree of it, in which first its parts are rewritten,");
        for (int filters = 0; filters <= 20; filters++) {
            Run run = new Run(due);
            run.table(0, 1, "5|2|-");
            run.is(0, "scan(0)");
            for (int node = 1; node <= filters; node++) {
                run.is(node, Calls.tell("filter", node - 1, 0, 1, 50 - node));
            }
            run.is(filters + 1, Calls.tell("filter", filters, 0, 0, 5));
            run.is(filters + 2, Calls.tell("filter", filters, 0, 0, 2));
            run.is(filters + 3, Calls.tell("bag", filters + 1, filters + 2, 1));
            stays(run, filters + 3, filters + 4);
            run.gives("5", filters + 3);
        }
    }

    /** Trees as deep as 24 nodes go, which stay as they are. */
    private static void testDeepestTrees(Due due) {
        due.sentence("Queries", "numbered from 0, at most 24;");
        Run filters = new Run(due);
        filters.table(0, 1, "5|-");
        filters.is(0, "scan(0)");
        Run bags = new Run(due);
        bags.is(0, "table(1)");
        bags.is(0, "scan(0)");
        Run groups = new Run(due);
        groups.table(0, 1, "5|-");
        groups.is(0, "scan(0)");
        for (int node = 1; node < 24; node++) {
            filters.is(node, Calls.tell("filter", node - 1, 0, 1, 50 - node));
            bags.is(node, Calls.tell("bag", node - 1, node - 1, 0));
            groups.is(node, Calls.tell("group", node - 1, 0, 1, 0));
        }
        filters.is(23, "rewrite(23)");
        filters.gives("5", 23);
        bags.is(23, "rewrite(23)");
        bags.gives("", 23);
        groups.is(23, "rewrite(23)");
        groups.gives("5 1|- 0", 23);
    }

    private static void testNoNode(Due due) {
        due.sentence("Promise 15", "Throws `IndexOutOfBoundsException` if there is no such node");
        Run run = new Run(due);
        run.refuses(Due.BOUNDS, "rewrite(0)", "rewrite(-1)");
        run.is(0, "table(1)");
        run.is(0, "scan(0)");
        run.refuses(Due.BOUNDS, "rewrite(1)", "rewrite(-1)", "rewrite(24)", "rewrite(min)", "rewrite(max)");
        run.fillNodes(1, 23);
        run.refuses(Due.BOUNDS, "rewrite(24)", "rewrite(-1)");
        run.is(0, "rewrite(0)");
    }

    private static void testRoomAndBudgetDoNotMatter(Due due) {
        due.sentence("Promise 15", "Throws `IllegalStateException` if there would be more than 24 nodes");
        Run run = runOfTwo(due);
        run.counts(2, "bag(0, 1, 0)", "filter(2, 1, 3, 9)");
        run.is(100000, "budget(1)");
        run.is(6, "rewrite(3)");
        run.refuses(Due.STATE, "rows(6)", "same(3, 6)");
        run.is(1, "budget(100)");
        run.gives("1 10|2 20|- 30|3 10", 6);
        run.is(1, "same(3, 6)");
    }
}
