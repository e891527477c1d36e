/** What an object answers to all that it can be asked for, in parts of few calls each. */
final class Look {
    /** Nodes, cells, orders and views, what can be filled up, what can be rewritten. */
    static final int PARTS = 5;
    private static final int MOST_CALLS = 512;
    private static final int NODES = 24;
    private static final int TABLES = 4;

    private final QueryLoft loft;
    private final StringBuilder told = new StringBuilder();
    private int calls;

    private Look(QueryLoft loft, int before) {
        this.loft = loft;
        calls = before;
    }

    /** All answers of a part, of an object that so many calls have been made of before. */
    static String at(QueryLoft loft, int part, int before) {
        Look look = new Look(loft, before);
        switch (part) {
            case 0:
                look.atNodes();
                break;
            case 1:
                look.atCells();
                break;
            case 2:
                look.atOrdersAndViews();
                break;
            case 3:
                look.atWhatFillsUp();
                break;
            default:
                look.atWhatIsRewritten();
                break;
        }
        return look.told.toString();
    }

    /** The first answer that is not the same, or nothing. */
    static String difference(String want, String got) {
        String[] wants = want.split("\n");
        String[] gots = got.split("\n");
        for (int i = 0; i < wants.length && i < gots.length; i++) {
            if (!wants[i].equals(gots[i])) {
                return gots[i] + " (due is " + wants[i] + ")";
            }
        }
        return wants.length == gots.length ? "" : "more or fewer calls";
    }

    private String ask(String name, int... arguments) {
        calls++;
        if (calls > MOST_CALLS) {
            throw new AssertionError("an object is used for at most 512 calls");
        }
        String answer = Calls.answer(loft, name, arguments);
        told.append(Calls.tell(name, arguments)).append(" = ").append(answer).append('\n');
        return answer;
    }

    private void atNodes() {
        for (int node = -1; node <= NODES; node++) {
            for (int what = 0; what < 4; what++) {
                ask("node", node, what);
            }
            ask("steps", node);
        }
    }

    /** The first rows of each node; a node that gives none, or too many, takes one call. */
    private void atCells() {
        for (int node = 0; node < NODES; node++) {
            boolean isThere = true;
            for (int row = 0; row < 2 && isThere; row++) {
                for (int column = 0; column < 6 && isThere; column++) {
                    isThere = !Calls.isRefusal(ask("cell", node, row, column));
                }
            }
        }
    }

    private void atOrdersAndViews() {
        for (int set = 1; set < 1 << TABLES; set++) {
            ask("estimate", set);
            ask("cost", set);
            ask("split", set);
        }
        for (int view = 0; view <= TABLES; view++) {
            ask("different", view);
            for (int pair = 0; pair < 9; pair++) {
                ask("often", view, pair / 3, pair % 3);
            }
        }
        for (int table = 0; table <= TABLES; table++) {
            ask("ways", table);
        }
        for (int node = 1; node < NODES; node++) {
            ask("same", node - 1, node);
        }
        ask("budget", 7);
    }

    /** How much room there is, which tells how much is there. */
    private void atWhatFillsUp() {
        for (int table = 0; table < TABLES; table++) {
            ask("take", table, 0);
            ask("take", table, 0);
            for (int row = 0; row < 4; row++) {
                ask("add", table, row, row, row);
                ask("add", table, row, row, 0);
                ask("add", table, row, 0, 0);
            }
        }
        for (int link = 0; link < 7; link++) {
            ask("link", 0, 0, 1, 0);
            ask("link", 3, 0, 2, 0);
        }
        ask("estimate", 15);
        for (int view = 0; view < 5; view++) {
            ask("view", 0, 1, 0, 0);
            ask("view", 2, 3, 0, 0);
            ask("different", view);
        }
        for (int table = 0; table < 5; table++) {
            ask("scan", table);
            ask("table", 3);
        }
        for (int value = 0; value < 25; value++) {
            ask("filter", 0, 0, 0, value);
        }
    }

    /** The rows of all tables, and the nodes, of which node(..) does not tell all numbers. */
    private void atWhatIsRewritten() {
        for (int table = 0; table < TABLES; table++) {
            String scan = ask("scan", table);
            boolean isThere = !Calls.isRefusal(scan);
            for (int row = 0; row < 10 && isThere; row++) {
                int node = Integer.parseInt(scan);
                isThere = !Calls.isRefusal(ask("cell", node, row, 0));
                ask("cell", node, row, 1);
                ask("cell", node, row, 2);
            }
        }
        for (int node = 0; node < NODES; node++) {
            ask("rewrite", node);
        }
        for (int node = 0; node < NODES; node++) {
            ask("rows", node);
            ask("node", node, 0);
            ask("node", node, 1);
        }
    }
}
