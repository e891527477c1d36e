import java.util.ArrayList;
import java.util.Arrays;
import java.util.List;

/** Long runs of calls, right and wrong ones, of which the program and the model must answer the same. */
public final class ModelTest {
    private static final int RUNS = 4000;
    private static final int CALLS = 512;

    private static final int[] ANSWERED = new int[23];
    private static final int[] THROWN = new int[23];
    private static final int[] REWRITTEN = new int[1];

    private long seed;
    private int style;
    private Model model;
    private QueryLoft loft;
    private final List<String> told = new ArrayList<>();

    private ModelTest(long seed) {
        this.seed = seed * 0x9E3779B97F4A7C15L + 12345;
        style = below(6);
        model = new Model();
        loft = new QueryLoft();
    }

    /** A number of a row of numbers that is the same each time. */
    private int below(int bound) {
        seed = seed * 6364136223846793005L + 1442695040888963407L;
        return (int) ((seed >>> 33) % bound);
    }

    private boolean rarely() {
        return below(40) == 0;
    }

    /** A number from 0 that there is, but rarely one that there is not. */
    private int number(int count) {
        if (rarely()) {
            int[] odd = {-1, count, count + 1, Integer.MIN_VALUE, Integer.MAX_VALUE};
            return odd[below(odd.length)];
        }
        return count == 0 ? 0 : below(count);
    }

    private int value() {
        if (rarely()) {
            int[] odd = {-1001, -999, -100, -99, 99, 100, Integer.MIN_VALUE, Integer.MAX_VALUE};
            return odd[below(odd.length)];
        }
        if (below(6) == 0) {
            return QueryLoft.UNKNOWN;
        }
        return below(style % 2 == 0 ? 3 : 6) - 1;
    }

    /** A node, of late ones rather than of early ones. */
    private int someNode() {
        int count = model.nodeCount();
        return below(2) == 0 && count > 0 ? Math.max(0, count - 1 - below(4)) : number(count);
    }

    private int columnOf(int node) {
        return number(model.columns(node));
    }

    private int set() {
        int count = model.tableCount();
        return rarely() ? below(40) - 3 : count == 0 ? 1 : 1 + below((1 << count) - 1);
    }

    private int[] arguments(int call) {
        int node = someNode();
        int other = someNode();
        switch (call) {
            case 0:
                return new int[] {rarely() ? below(9) - 3 : 1 + below(3)};
            case 1:
                return new int[] {number(model.tableCount()), value(), below(3) == 0 ? 0 : value(),
                    below(2) == 0 ? 0 : value()};
            case 2:
                int table = number(model.tableCount());
                return new int[] {table, number(model.rowCount(table))};
            case 3:
                return new int[] {number(model.tableCount())};
            case 4:
                int comparison = rarely() ? below(12) - 3 : below(6);
                int with = comparison >= 4 && below(8) > 0 ? 0 : below(5) == 0 ? value() : below(3) - 1;
                return new int[] {node, columnOf(node), comparison, with};
            case 5:
                return new int[] {node, other, columnOf(node), columnOf(other), rarely() ? below(9) - 2 : below(5)};
            case 6:
                int kind = rarely() ? below(9) - 2 : below(5);
                return new int[] {node, columnOf(node), kind, kind == 0 && !rarely() ? 0 : columnOf(node)};
            case 7:
                return new int[] {node, other, rarely() ? below(9) - 2 : style < 3 && below(2) == 0 ? 0 : below(4)};
            case 8:
                return new int[] {node};
            case 9:
                return new int[] {node, below(10) == 0 ? below(300) : number(8), columnOf(node)};
            case 10:
                return new int[] {node, other};
            case 11:
                return new int[] {node};
            case 12:
                int[] budgets = {0, 1, 10, 50, 300, 2000, 99999, 100000, 100000, 100000, 100001, -5};
                return new int[] {budgets[below(budgets.length)]};
            case 13:
                return new int[] {node};
            case 14:
                return new int[] {node, rarely() ? below(9) - 2 : below(4)};
            case 15:
            case 19:
                int first = number(model.tableCount());
                int second = number(model.tableCount());
                return call == 15 ? new int[] {first, number(2), second, number(2)}
                    : new int[] {first, second, number(2), number(2)};
            case 16:
            case 17:
            case 18:
                return new int[] {set()};
            case 20:
                return new int[] {number(4)};
            case 21:
                return new int[] {number(3), number(5), number(5)};
            default:
                return new int[] {number(model.tableCount())};
        }
    }

    private static final String[] NAMES = {"table", "add", "take", "scan", "filter", "join", "group", "bag", "rows",
        "cell", "same", "steps", "budget", "rewrite", "node", "link", "estimate", "cost", "split", "view",
        "different", "often", "ways"};

    /** How often each call comes, of 100 or so. */
    private static final int[] WEIGHTS = {2, 14, 5, 3, 9, 6, 3, 6, 6, 10, 5, 4, 2, 6, 4, 1, 2, 2, 2, 1, 3, 6, 3};

    private int someCall() {
        int all = 0;
        for (int weight : WEIGHTS) {
            all += weight;
        }
        int at = below(all);
        int call = 0;
        while (at >= WEIGHTS[call]) {
            at -= WEIGHTS[call];
            call++;
        }
        return call;
    }

    /** Makes a call of both; false if the program's answer is wrong. */
    private boolean isRight(int call, int... arguments) {
        String want = Calls.answer(model, NAMES[call], arguments);
        String got = Calls.answer(loft, NAMES[call], arguments);
        told.add(NAMES[call] + Arrays.toString(arguments) + " = " + got);
        (Calls.isRefusal(want) ? THROWN : ANSWERED)[call]++;
        if (!want.equals(got)) {
            told.add("but due is " + want);
        }
        return want.equals(got);
    }

    /** A run of all calls. */
    private boolean runCalls() {
        boolean right = true;
        for (int i = 0; i < CALLS && right; i++) {
            int call = i < 12 ? i % 3 == 0 ? 0 : 1 : someCall();
            int[] arguments = arguments(call);
            right = isRight(call, arguments);
        }
        return right;
    }

    /**
     * A run that makes some nodes, rewrites the last one and asks for all that all nodes give. In a deep one
     * the second part is a late node, too, so that the same part stands in the tree many times.
     */
    private boolean runRewriting(boolean isDeep) {
        boolean right = isRight(0, 1 + below(2)) && isRight(0, 1 + below(2)) && isRight(3, 0) && isRight(3, 1);
        for (int row = 0; row < 6 && right; row++) {
            right = isRight(1, arguments(1)) && isRight(1, arguments(1));
        }
        int nodes = isDeep ? 8 + below(12) : 3 + below(10);
        for (int i = 0; i < 40 && model.nodeCount() < nodes && right; i++) {
            int node = Math.max(0, model.nodeCount() - 1 - below(isDeep ? 2 : 3));
            int other = isDeep ? Math.max(0, model.nodeCount() - 1 - below(3)) : below(model.nodeCount());
            int kind = below(10);
            if (kind < (isDeep ? 2 : 5)) {
                right = isRight(4, node, columnOf(node), below(4), below(3) - 1);
            } else if (kind < 8 && !isDeep || kind < 4) {
                right = isRight(5, node, other, columnOf(node), columnOf(other), below(3) == 0 ? below(5) : below(2));
            } else {
                right = isRight(7, node, other, isDeep && below(8) == 0 ? 1 + below(3) : 0);
            }
        }
        int before = model.nodeCount();
        right = right && isRight(13, before - 1);
        REWRITTEN[0] += model.nodeCount() > before ? 1 : 0;
        for (int node = 0; node < model.nodeCount() && right; node++) {
            right = isRight(14, node, 0) && isRight(14, node, 1) && isRight(14, node, 2) && isRight(14, node, 3)
                && isRight(11, node) && isRight(8, node) && areCellsRight(node);
        }
        return right;
    }

    private boolean areCellsRight(int node) {
        String rows = Calls.answer(model, "rows", node);
        boolean right = true;
        for (int row = 0; !Calls.isRefusal(rows) && row < Integer.parseInt(rows) && right; row++) {
            for (int column = 0; column < model.columns(node) && right; column++) {
                right = isRight(9, node, row, column);
            }
        }
        return right;
    }

    private static void runAll(int runs) {
        for (int run = 0; run < runs; run++) {
            ModelTest test = new ModelTest(run);
            if (run % 4 == 0 ? !test.runCalls() : !test.runRewriting(run % 4 == 3)) {
                System.out.println("ModelTest: run " + run);
                for (String line : test.told) {
                    System.out.println("  " + line);
                }
                System.exit(1);
            }
        }
    }

    public static void main(String[] args) {
        int runs = args.length > 0 ? Integer.parseInt(args[0]) : RUNS;
        runAll(runs);
        boolean seenAll = REWRITTEN[0] > runs / 10;
        for (int call = 0; call < NAMES.length; call++) {
            System.out.println("ModelTest: " + NAMES[call] + " answered " + ANSWERED[call] + ", threw " + THROWN[call]);
            seenAll = seenAll && ANSWERED[call] > 0 && THROWN[call] > 0;
        }
        System.out.println("ModelTest: " + runs + " runs, all as in the model, " + REWRITTEN[0] + " rewritten");
        if (!seenAll) {
            System.out.println("ModelTest: not each kind of answer was seen");
            System.exit(1);
        }
    }
}
