import java.util.ArrayList;
import java.util.Arrays;
import java.util.List;

/**
 * All calls with all edges of their arguments, on objects that are new, empty, small, full and beyond their
 * room: the model tells which exception is due, and behind each call that is refused the object must answer
 * as one on which it was not made. One part of all answers is looked at behind each call, in turns.
 */
public final class RefusalsTest {
    private static final int MIN = Integer.MIN_VALUE;
    private static final int MAX = Integer.MAX_VALUE;
    private static final int[] TABLES = {-1, 0, 1, 3, 4};
    private static final int[] NODES = {-1, 0, 3, 9, 24};
    private static final int[] ALL_NODES = {MIN, -1, 0, 1, 2, 3, 4, 5, 6, 7, 8, 9, 10, 11, 22, 23, 24, MAX};
    private static final int[] COLUMNS = {-1, 0, 1, 3};
    private static final int[] WIDE_COLUMNS = {-1, 0, 1, 5, 6};
    private static final int[] KINDS = {-1, 0, 1, 3, 4, 5};
    private static final int[] VALUES = {-1001, -1000, -100, 0, 99, 100};
    private static final int[] ROWS = {MIN, -1, 0, 1, 9, 10, 200, MAX};
    private static final int[] SETS = {MIN, -1, 0, 1, 2, 3, 4, 7, 8, 15, 16, 17, MAX};
    private static final int[] ENDS = {MIN, -1, 0, 1, 3, 4, MAX};

    private static final String[] FULL_TABLES = {"table(1)", "table(2)", "table(3)", "table(2)", "add(0, 1, 0, 0)",
        "add(0, 1, 0, 0)", "add(0, 2, 0, 0)", "add(0, -1000, 0, 0)", "add(0, 5, 0, 0)", "add(0, 6, 0, 0)",
        "add(0, 7, 0, 0)", "add(0, 8, 0, 0)", "add(0, 9, 0, 0)", "add(0, 1, 0, 0)", "add(1, 1, 2, 0)",
        "add(1, -1000, 2, 0)", "add(2, 1, 1, 1)", "scan(0)", "scan(1)", "scan(2)"};
    private static final String[] FULL_NODES = {"join(2, 2, 0, 0, 0)", "bag(0, 0, 0)", "filter(4, 0, 0, 1)",
        "group(0, 0, 0, 0)", "link(0, 0, 1, 0)", "link(0, 0, 1, 1)", "link(0, 0, 2, 0)", "link(2, 0, 1, 0)",
        "link(2, 1, 1, 0)", "link(2, 2, 1, 0)", "view(0, 1, 0, 0)", "view(1, 0, 1, 0)", "view(2, 1, 0, 0)",
        "view(0, 2, 0, 2)"};
    private static final String[] SMALL = {"table(1)", "table(2)", "add(0, 1, 0, 0)", "add(1, 1, -1000, 0)",
        "add(1, 2, 1, 0)", "scan(0)", "scan(1)", "filter(1, 0, 5, 0)", "join(1, 2, 0, 1, 1)", "join(3, 0, 0, 0, 0)",
        "group(4, 0, 2, 1)", "bag(5, 1, 3)", "filter(6, 0, 0, 1)", "rows(7)", "link(0, 0, 1, 0)", "view(1, 0, 0, 0)",
        "budget(20)"};
    private static final String[] TOO_MANY = {"table(1)", "table(1)", "scan(0)", "scan(1)", "bag(0, 0, 0)",
        "bag(2, 2, 0)", "bag(3, 3, 0)", "bag(4, 4, 0)", "bag(5, 3, 0)", "bag(6, 1, 0)", "filter(7, 0, 0, 1)",
        "group(8, 0, 0, 0)", "join(6, 6, 0, 0, 0)", "bag(6, 6, 3)", "rows(6)", "steps(6)"};

    private static int seen;

    private static List<String[]> states() {
        List<String> tooMany = new ArrayList<>(Arrays.asList(TOO_MANY));
        for (int row = 0; row < 10; row++) {
            tooMany.add(2, "add(0, 1, 0, 0)");
        }
        tooMany.add(2, "add(1, 2, 0, 0)");
        return Arrays.asList(new String[] {}, new String[] {"table(1)", "scan(0)", "rows(0)"}, SMALL,
            FULL_TABLES, full(22), full(23), tooMany.toArray(new String[0]));
    }

    /** Everything full, with nodes up to this one; behind the 22nd there is room for one of two to be rewritten. */
    private static String[] full(int last) {
        List<String> full = new ArrayList<>(Arrays.asList(FULL_TABLES));
        full.addAll(Arrays.asList(FULL_NODES));
        for (int node = 7; node <= last; node++) {
            full.add(Calls.tell("filter", 0, 0, 1, node));
        }
        full.add("budget(12)");
        return full.toArray(new String[0]);
    }

    private static Model modelOf(String[] state) {
        Model model = new Model();
        for (String call : state) {
            if (Calls.isRefusal(Calls.answer(model, Calls.nameOf(call), Calls.argumentsOf(call)))) {
                throw new AssertionError("a state is made of calls that answer: " + call);
            }
        }
        return model;
    }

    private static QueryLoft loftOf(String[] state) {
        QueryLoft loft = new QueryLoft();
        for (String call : state) {
            Calls.answer(loft, call);
        }
        return loft;
    }

    private static void testState(Due due, String[] state) {
        String[] looks = new String[Look.PARTS];
        for (int part = 0; part < looks.length; part++) {
            looks[part] = Look.at(loftOf(state), part, state.length + 1);
        }
        Model model = modelOf(state);
        for (String call : edges()) {
            String want = Calls.answer(model, Calls.nameOf(call), Calls.argumentsOf(call));
            QueryLoft loft = loftOf(state);
            due.isAnswer(call + " behind " + state.length + " calls", want, Calls.answer(loft, call));
            if (Calls.isRefusal(want)) {
                int part = seen % Look.PARTS;
                String difference = Look.difference(looks[part], Look.at(loft, part, state.length + 1));
                due.isAnswer("what changed behind " + call, "", difference);
                seen++;
            } else {
                model = modelOf(state);
            }
        }
    }

    private static List<String> edges() {
        List<String> calls = new ArrayList<>();
        cross(calls, "table", ENDS);
        cross(calls, "add", new int[] {-1, 0, 1, 2, 4}, VALUES, new int[] {-1000, 0, 1, 100}, new int[] {-1000, 0, 1, 100});
        cross(calls, "take", TABLES, ROWS);
        cross(calls, "scan", ENDS);
        cross(calls, "filter", NODES, WIDE_COLUMNS, new int[] {-1, 0, 3, 4, 5, 6}, new int[] {-1000, -100, 0, 1, 99, 100});
        cross(calls, "join", NODES, NODES, WIDE_COLUMNS, COLUMNS, new int[] {-1, 0, 1, 4, 5});
        cross(calls, "group", NODES, COLUMNS, KINDS, COLUMNS);
        cross(calls, "bag", new int[] {-1, 0, 1, 3, 7, 24}, NODES, KINDS);
        cross(calls, "rows", ALL_NODES);
        cross(calls, "cell", ALL_NODES, ROWS, COLUMNS);
        cross(calls, "same", ALL_NODES, ALL_NODES);
        cross(calls, "steps", ALL_NODES);
        cross(calls, "budget", new int[] {MIN, -1, 0, 1, 100000, 100001, MAX});
        cross(calls, "rewrite", ALL_NODES);
        cross(calls, "node", ALL_NODES, ENDS);
        cross(calls, "link", TABLES, COLUMNS, TABLES, COLUMNS);
        cross(calls, "estimate", SETS);
        cross(calls, "cost", SETS);
        cross(calls, "split", SETS);
        cross(calls, "view", TABLES, TABLES, COLUMNS, COLUMNS);
        cross(calls, "different", ENDS);
        cross(calls, "often", ENDS, ROWS, ROWS);
        cross(calls, "ways", ENDS);
        return calls;
    }

    /** Adds the calls with each of these arguments with each of the others. */
    private static void cross(List<String> calls, String name, int[]... edges) {
        int count = 1;
        for (int[] edge : edges) {
            count *= edge.length;
        }
        for (int number = 0; number < count; number++) {
            int[] arguments = new int[edges.length];
            int rest = number;
            for (int i = 0; i < edges.length; i++) {
                arguments[i] = edges[i][rest % edges[i].length];
                rest /= edges[i].length;
            }
            calls.add(Calls.tell(name, arguments));
        }
    }

    public static void main(String[] args) {
        Due due = new Due("RefusalsTest");
        for (String[] state : states()) {
            testState(due, state);
        }
        System.out.println("RefusalsTest: " + seen + " refused calls");
        due.end();
    }
}
