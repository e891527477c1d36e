/**
 * A small query engine: tables with unknown values, queries as trees of nodes, rewriting that moves
 * filters down, orders of joins by estimates, views and ways. The document's promises say each call.
 */
public final class QueryLoft {
    /** None. */
    public static final int NONE = -1;
    /** What tells an unknown value. */
    public static final int UNKNOWN = -1000;

    private static final int MOST_TABLES = 4;
    private static final int MOST_TABLE_COLUMNS = 3;
    private static final int MOST_TABLE_ROWS = 10;
    private static final int MOST_VALUE = 99;
    private static final int MOST_NODES = 24;
    private static final int MOST_COLUMNS = 6;
    private static final int MOST_ROWS = 200;
    private static final int MOST_STEPS = 100000;
    private static final int MOST_LINKS = 6;
    private static final int MOST_VIEWS = 4;

    private static final int SCAN = 0;
    private static final int FILTER = 1;
    private static final int JOIN = 2;
    private static final int GROUP = 3;
    private static final int BAG = 4;

    private static final int EQUAL = 0;
    private static final int UNLIKE = 1;
    private static final int LESS = 2;
    private static final int GREATER = 3;
    private static final int IS_UNKNOWN = 4;
    private static final int IS_KNOWN = 5;

    private static final int INNER = 0;
    private static final int LEFT = 1;
    private static final int SEMI = 2;
    private static final int NOT_IN = 4;

    private static final int COUNT_ROWS = 0;
    private static final int COUNT_KNOWN = 1;
    private static final int SUM = 2;
    private static final int LEAST = 3;
    private static final int GREATEST = 4;

    private static final int ALL = 0;
    private static final int BOTH = 2;
    private static final int ONCE = 3;

    private final Store store;
    private final Plan plan;
    private final Answers answers;
    private final Rewriter rewriter;
    private final Orders orders;
    private final Views views;
    private int allowance;

    /** Creates an engine without tables. */
    public QueryLoft() {
        store = new Store();
        plan = new Plan(store);
        answers = new Answers(store, plan);
        rewriter = new Rewriter(plan);
        orders = new Orders(store);
        views = new Views(store);
        allowance = MOST_STEPS;
    }

    // ---- tables

    /** Makes a table and returns its number. */
    public int table(int columns) throws IllegalArgumentException, IllegalStateException {
        if (columns < 1 || columns > MOST_TABLE_COLUMNS) {
            throw new IllegalArgumentException("a table has 1 to 3 columns");
        }
        int made = store.open(columns);
        if (made == NONE) {
            throw new IllegalStateException("there are 4 tables");
        }
        return made;
    }

    /** Adds a row to a table and returns how many rows it has then. */
    public int add(int table, int a, int b, int c)
            throws IndexOutOfBoundsException, IllegalArgumentException, IllegalStateException {
        Table held = store.find(table);
        if (held == null) {
            throw new IndexOutOfBoundsException("no such table");
        }
        if (!held.allows(a, b, c)) {
            throw new IllegalArgumentException("a value is out of range");
        }
        if (held.isFull()) {
            throw new IllegalStateException("the table has 10 rows");
        }
        held.append(a, b, c);
        store.noteChange();
        return held.count();
    }

    /** Takes a row out of a table and returns how many rows it has then. */
    public int take(int table, int row) throws IndexOutOfBoundsException {
        Table held = store.find(table);
        if (held == null || !held.hasRow(row)) {
            throw new IndexOutOfBoundsException("no such table or row");
        }
        held.remove(row);
        store.noteChange();
        return held.count();
    }

    // ---- queries

    /** Makes a scan and returns the number of the node. */
    public int scan(int table) throws IndexOutOfBoundsException, IllegalStateException {
        if (store.find(table) == null) {
            throw new IndexOutOfBoundsException("no such table");
        }
        int made = plan.make(SCAN, table, NONE, 0, 0, 0);
        if (made == NONE) {
            throw new IllegalStateException("there are 24 nodes");
        }
        return made;
    }

    /** Makes a filter and returns the number of the node. */
    public int filter(int node, int column, int comparison, int value)
            throws IndexOutOfBoundsException, IllegalArgumentException, IllegalStateException {
        if (!plan.hasColumn(node, column)) {
            throw new IndexOutOfBoundsException("no such node or column");
        }
        if (comparison < EQUAL || comparison > IS_KNOWN || !isKnownValue(value)) {
            throw new IllegalArgumentException("comparison or value is out of range");
        }
        if (comparison >= IS_UNKNOWN && value != 0) {
            throw new IllegalArgumentException("the value is 0 for this comparison");
        }
        int made = plan.make(FILTER, node, NONE, comparison, column, value);
        if (made == NONE) {
            throw new IllegalStateException("there are 24 nodes");
        }
        return made;
    }

    /** Makes a join and returns the number of the node. */
    public int join(int first, int second, int column, int secondColumn, int kind)
            throws IndexOutOfBoundsException, IllegalArgumentException, IllegalStateException {
        if (!plan.hasColumn(first, column) || !plan.hasColumn(second, secondColumn)) {
            throw new IndexOutOfBoundsException("no such node or column");
        }
        if (kind < INNER || kind > NOT_IN) {
            throw new IllegalArgumentException("kind is out of range");
        }
        if (plan.widthMade(JOIN, first, second, kind) > MOST_COLUMNS) {
            throw new IllegalStateException("it would have more than 6 columns");
        }
        int made = plan.make(JOIN, first, second, kind, column, secondColumn);
        if (made == NONE) {
            throw new IllegalStateException("there are 24 nodes");
        }
        return made;
    }

    /** Makes a group and returns the number of the node. */
    public int group(int node, int by, int kind, int column)
            throws IndexOutOfBoundsException, IllegalArgumentException, IllegalStateException {
        if (!plan.hasColumn(node, by)) {
            throw new IndexOutOfBoundsException("no such node or column");
        }
        if (kind != COUNT_ROWS && !plan.hasColumn(node, column)) {
            throw new IndexOutOfBoundsException("no such second column");
        }
        if (kind < COUNT_ROWS || kind > GREATEST) {
            throw new IllegalArgumentException("kind is out of range");
        }
        if (kind == COUNT_ROWS && column != 0) {
            throw new IllegalArgumentException("column is 0 for this kind");
        }
        int made = plan.make(GROUP, node, NONE, kind, by, column);
        if (made == NONE) {
            throw new IllegalStateException("there are 24 nodes");
        }
        return made;
    }

    /** Makes a bag and returns the number of the node. */
    public int bag(int first, int second, int kind)
            throws IndexOutOfBoundsException, IllegalArgumentException, IllegalStateException {
        if (!plan.has(first) || !plan.has(second)) {
            throw new IndexOutOfBoundsException("no such node");
        }
        if (kind < ALL || kind > ONCE) {
            throw new IllegalArgumentException("kind is out of range");
        }
        if (plan.widthOf(first) != plan.widthOf(second)) {
            throw new IllegalStateException("the nodes have unlike numbers of columns");
        }
        int made = plan.make(BAG, first, second, kind, 0, 0);
        if (made == NONE) {
            throw new IllegalStateException("there are 24 nodes");
        }
        return made;
    }

    /** Returns how many rows a node gives. */
    public int rows(int node) throws IndexOutOfBoundsException, IllegalStateException {
        if (!plan.has(node)) {
            throw new IndexOutOfBoundsException("no such node");
        }
        if (!answers.isPossible(node, allowance)) {
            throw new IllegalStateException("too many rows or steps");
        }
        return answers.countOf(node);
    }

    /** Returns a value of a row that a node gives. */
    public int cell(int node, int row, int column) throws IndexOutOfBoundsException, IllegalStateException {
        if (!plan.hasColumn(node, column) || row < 0) {
            throw new IndexOutOfBoundsException("no such node, column or row");
        }
        if (!answers.isPossible(node, allowance)) {
            throw new IllegalStateException("too many rows or steps");
        }
        if (row >= answers.countOf(node)) {
            throw new IndexOutOfBoundsException("no such row");
        }
        return answers.valueAt(node, row, column);
    }

    /** Returns whether two nodes give the same rows, each as often, in whichever order. */
    public boolean same(int node, int other) throws IndexOutOfBoundsException, IllegalStateException {
        if (!plan.has(node) || !plan.has(other)) {
            throw new IndexOutOfBoundsException("no such node");
        }
        if (!answers.isPossible(node, allowance) || !answers.isPossible(other, allowance)) {
            throw new IllegalStateException("too many rows or steps");
        }
        return answers.haveSameRows(node, other);
    }

    /** Returns how many steps a node takes. */
    public int steps(int node) throws IndexOutOfBoundsException, IllegalStateException {
        if (!plan.has(node)) {
            throw new IndexOutOfBoundsException("no such node");
        }
        if (!answers.isPossible(node, allowance)) {
            throw new IllegalStateException("too many rows or steps");
        }
        return answers.stepsOf(node);
    }

    /** Sets the budget and returns what it was. */
    public int budget(int steps) throws IllegalArgumentException {
        if (steps < 1 || steps > MOST_STEPS) {
            throw new IllegalArgumentException("a budget has 1 to 100000 steps");
        }
        int before = allowance;
        allowance = steps;
        return before;
    }

    /** Rewrites a node and returns the number of the node that is the new tree. */
    public int rewrite(int node) throws IndexOutOfBoundsException, IllegalStateException {
        if (!plan.has(node)) {
            throw new IndexOutOfBoundsException("no such node");
        }
        int made = rewriter.rewritten(node);
        if (made == NONE) {
            throw new IllegalStateException("there would be more than 24 nodes");
        }
        return made;
    }

    /** Returns what a node is: 0 its kind, 1 its first part, 2 its second one, 3 how many columns it has. */
    public int node(int node, int what) throws IndexOutOfBoundsException, IllegalArgumentException {
        if (!plan.has(node)) {
            throw new IndexOutOfBoundsException("no such node");
        }
        switch (what) {
            case 0:
                return plan.typeOf(node);
            case 1:
                return plan.firstOf(node);
            case 2:
                return plan.secondOf(node);
            case 3:
                return plan.widthOf(node);
            default:
                throw new IllegalArgumentException("what is out of range");
        }
    }

    // ---- orders of joins

    /** Tells a link and returns how many links there are then. */
    public int link(int table, int column, int other, int otherColumn)
            throws IndexOutOfBoundsException, IllegalArgumentException, IllegalStateException {
        if (!store.hasColumn(table, column) || !store.hasColumn(other, otherColumn)) {
            throw new IndexOutOfBoundsException("no such table or column");
        }
        if (table == other) {
            throw new IllegalArgumentException("both tables are the same");
        }
        if (orders.isFull()) {
            throw new IllegalStateException("there are 6 links");
        }
        return orders.append(table, column, other, otherColumn);
    }

    /** Returns the estimate of a set of tables. */
    public int estimate(int tables) throws IllegalArgumentException {
        if (!store.hasSet(tables)) {
            throw new IllegalArgumentException("no such set of tables");
        }
        return orders.estimateOf(tables);
    }

    /** Returns what the best plan for a set of tables costs. */
    public int cost(int tables) throws IllegalArgumentException {
        if (!store.hasSet(tables)) {
            throw new IllegalArgumentException("no such set of tables");
        }
        return orders.bestCost(tables);
    }

    /** Returns the set of the best plan's part that has the lowest table. */
    public int split(int tables) throws IllegalArgumentException {
        if (!store.hasSet(tables)) {
            throw new IllegalArgumentException("no such set of tables");
        }
        return orders.bestPart(tables);
    }

    // ---- views and ways

    /** Makes a view and returns its number. */
    public int view(int table, int other, int column, int otherColumn)
            throws IndexOutOfBoundsException, IllegalArgumentException, IllegalStateException {
        if (!store.hasColumn(table, column) || !store.hasColumn(other, otherColumn)) {
            throw new IndexOutOfBoundsException("no such table or column");
        }
        if (table == other) {
            throw new IllegalArgumentException("both tables are the same");
        }
        int made = views.append(table, other, column, otherColumn);
        if (made == NONE) {
            throw new IllegalStateException("there are 4 views");
        }
        return made;
    }

    /** Returns how many different rows a view has. */
    public int different(int view) throws IndexOutOfBoundsException {
        if (!views.has(view)) {
            throw new IndexOutOfBoundsException("no such view");
        }
        return views.differentRows(view);
    }

    /** Returns how often the row that two rows make is in a view. */
    public int often(int view, int row, int other) throws IndexOutOfBoundsException {
        if (!views.hasRows(view, row, other)) {
            throw new IndexOutOfBoundsException("no such view or row");
        }
        return views.timesOf(view, row, other);
    }

    /** Returns how many pairs of known values there are over one row or more, one behind the other. */
    public int ways(int table) throws IndexOutOfBoundsException, IllegalStateException {
        Table held = store.find(table);
        if (held == null) {
            throw new IndexOutOfBoundsException("no such table");
        }
        if (!held.hasColumn(1)) {
            throw new IllegalStateException("the table has 1 column");
        }
        return held.pathPairs();
    }

    private static boolean isKnownValue(int value) {
        return value >= -MOST_VALUE && value <= MOST_VALUE;
    }

    /** Whether two values are equal and known: how rows meet. */
    private static boolean areEqual(int value, int other) {
        return value != UNKNOWN && value == other;
    }

    /** Whether a comparison of two values is true, not false or unknown. */
    private static boolean isTrue(int comparison, int value, int other) {
        switch (comparison) {
            case IS_UNKNOWN:
                return value == UNKNOWN;
            case IS_KNOWN:
                return value != UNKNOWN;
            default:
                return value != UNKNOWN && other != UNKNOWN && holds(comparison, value, other);
        }
    }

    /** Whether a comparison of two known values is true. */
    private static boolean holds(int comparison, int value, int other) {
        switch (comparison) {
            case EQUAL:
                return value == other;
            case UNLIKE:
                return value != other;
            case LESS:
                return value < other;
            case GREATER:
                return value > other;
            default:
                return false;
        }
    }

    /** A table: its rows in the order in which they came. */
    private static final class Table {
        private final int[] values;
        private final boolean[] reached;
        private int columns;
        private int count;

        Table() {
            values = new int[MOST_TABLE_ROWS * MOST_TABLE_COLUMNS];
            reached = new boolean[MOST_TABLE_ROWS];
        }

        void open(int width) {
            columns = width;
            count = 0;
        }

        int columns() {
            return columns;
        }

        int count() {
            return count;
        }

        boolean isFull() {
            return count >= MOST_TABLE_ROWS;
        }

        boolean hasRow(int row) {
            return row >= 0 && row < count;
        }

        boolean hasColumn(int column) {
            return column >= 0 && column < columns;
        }

        boolean allows(int a, int b, int c) {
            return allowsIn(0, a) && allowsIn(1, b) && allowsIn(2, c);
        }

        private boolean allowsIn(int column, int value) {
            if (column >= columns) {
                return value == 0;
            }
            return value == UNKNOWN || isKnownValue(value);
        }

        void append(int a, int b, int c) {
            if (count >= MOST_TABLE_ROWS) {
                return;
            }
            int at = count * MOST_TABLE_COLUMNS;
            values[at] = a;
            values[at + 1] = b;
            values[at + 2] = c;
            count++;
        }

        void remove(int row) {
            if (row < 0 || row >= count) {
                return;
            }
            count--;
            for (int at = row * MOST_TABLE_COLUMNS; at < count * MOST_TABLE_COLUMNS; at++) {
                values[at] = values[at + MOST_TABLE_COLUMNS];
            }
        }

        int value(int row, int column) {
            boolean isThere = row >= 0 && row < count && column >= 0 && column < columns;
            return isThere ? values[row * MOST_TABLE_COLUMNS + column] : UNKNOWN;
        }

        /** Whether two rows are the same, unknown values being the same here. */
        boolean areAlike(int row, int other) {
            for (int column = 0; column < columns; column++) {
                if (value(row, column) != value(other, column)) {
                    return false;
                }
            }
            return true;
        }

        int countAlike(int row) {
            int alike = 0;
            for (int other = 0; other < count; other++) {
                if (areAlike(row, other)) {
                    alike++;
                }
            }
            return alike;
        }

        /** Whether no row ahead of this one is the same. */
        boolean isFirstAlike(int row) {
            for (int other = 0; other < row; other++) {
                if (areAlike(row, other)) {
                    return false;
                }
            }
            return true;
        }

        int countKnownValues(int column) {
            int known = 0;
            for (int row = 0; row < count; row++) {
                if (isFirstKnown(row, column)) {
                    known++;
                }
            }
            return known;
        }

        private boolean isFirstKnown(int row, int column) {
            int value = value(row, column);
            for (int other = 0; other < row; other++) {
                if (value(other, column) == value) {
                    return false;
                }
            }
            return value != UNKNOWN;
        }

        /** How many pairs of known values rows lead to, from the first column to the second one. */
        int pathPairs() {
            int pairs = 0;
            for (int row = 0; row < count; row++) {
                if (isNewStart(row)) {
                    spread(value(row, 0));
                    pairs += countReachedEnds();
                }
            }
            return pairs;
        }

        private boolean isStep(int row) {
            return value(row, 0) != UNKNOWN && value(row, 1) != UNKNOWN;
        }

        private boolean isNewStart(int row) {
            for (int other = 0; other < row; other++) {
                if (isStep(other) && value(other, 0) == value(row, 0)) {
                    return false;
                }
            }
            return isStep(row);
        }

        /** Marks the rows that can be come to from a value: one row more a round, at least, or the end. */
        private void spread(int start) {
            for (int row = 0; row < count && row < MOST_TABLE_ROWS; row++) {
                reached[row] = isStep(row) && value(row, 0) == start;
            }
            for (int round = 0; round < count; round++) {
                for (int row = 0; row < count && row < MOST_TABLE_ROWS; row++) {
                    reached[row] = reached[row] || isStep(row) && isReachedEnd(value(row, 0), count);
                }
            }
        }

        /** Whether a reached row among so many of the first ones ends in a value. */
        private boolean isReachedEnd(int value, int among) {
            for (int row = 0; row < among && row < MOST_TABLE_ROWS; row++) {
                if (reached[row] && value(row, 1) == value) {
                    return true;
                }
            }
            return false;
        }

        private int countReachedEnds() {
            int ends = 0;
            for (int row = 0; row < count && row < MOST_TABLE_ROWS; row++) {
                if (reached[row] && !isReachedEnd(value(row, 1), row)) {
                    ends++;
                }
            }
            return ends;
        }
    }

    /** All tables, and a number that tells whether their rows have changed. */
    private static final class Store {
        private final Table[] tables;
        private int count;
        private int changes;

        Store() {
            tables = new Table[MOST_TABLES];
            for (int i = 0; i < MOST_TABLES; i++) {
                tables[i] = new Table();
            }
            // Answers begin with 0, so that at 1 none counts as up to date.
            changes = 1;
        }

        /** Makes a table and returns its number, or NONE if there are too many. */
        int open(int columns) {
            if (count >= MOST_TABLES) {
                return NONE;
            }
            Table made = tables[count];
            if (made == null) {
                return NONE;
            }
            made.open(columns);
            count++;
            return count - 1;
        }

        /** The table of a number, or null if there is none. */
        Table find(int number) {
            return number >= 0 && number < count && number < MOST_TABLES ? tables[number] : null;
        }

        boolean hasColumn(int number, int column) {
            Table held = find(number);
            return held != null && held.hasColumn(column);
        }

        /** Whether a set of tables is not empty and has only tables that there are. */
        boolean hasSet(int set) {
            return set > 0 && set < 1 << count;
        }

        int countRows(int number) {
            Table held = find(number);
            return held == null ? 0 : held.count();
        }

        int countKnownValues(int number, int column) {
            Table held = find(number);
            return held == null ? 0 : held.countKnownValues(column);
        }

        void noteChange() {
            changes++;
        }

        int changes() {
            return changes;
        }
    }

    /**
     * What each node is. A node's kind is its comparison or its kind of join, group or bag; its column is
     * that of a filter, of a join's first node, or by which a group goes; its extra is a filter's value,
     * the column of a join's second node, or a group's second column.
     */
    private static final class Plan {
        private final Store store;
        private final int[] types;
        private final int[] firsts;
        private final int[] seconds;
        private final int[] kinds;
        private final int[] columns;
        private final int[] extras;
        private final int[] widths;
        private int size;

        Plan(Store tables) {
            store = tables;
            types = new int[MOST_NODES];
            firsts = new int[MOST_NODES];
            seconds = new int[MOST_NODES];
            kinds = new int[MOST_NODES];
            columns = new int[MOST_NODES];
            extras = new int[MOST_NODES];
            widths = new int[MOST_NODES];
        }

        int size() {
            return size;
        }

        boolean has(int node) {
            return node >= 0 && node < size;
        }

        boolean hasColumn(int node, int column) {
            return column >= 0 && column < widthOf(node);
        }

        int typeOf(int node) {
            return node >= 0 && node < size ? types[node] : NONE;
        }

        int firstOf(int node) {
            return node >= 0 && node < size ? firsts[node] : NONE;
        }

        int secondOf(int node) {
            return node >= 0 && node < size ? seconds[node] : NONE;
        }

        int kindOf(int node) {
            return node >= 0 && node < size ? kinds[node] : NONE;
        }

        int columnOf(int node) {
            return node >= 0 && node < size ? columns[node] : NONE;
        }

        int extraOf(int node) {
            return node >= 0 && node < size ? extras[node] : NONE;
        }

        int widthOf(int node) {
            return node >= 0 && node < size ? widths[node] : 0;
        }

        /** How many columns a node has that is made of these. */
        int widthMade(int type, int first, int second, int kind) {
            if (type == SCAN) {
                Table held = store.find(first);
                return held == null ? 0 : held.columns();
            }
            if (type == GROUP) {
                return 2;
            }
            boolean sideBySide = type == JOIN && (kind == INNER || kind == LEFT);
            return sideBySide ? widthOf(first) + widthOf(second) : widthOf(first);
        }

        /** The number of the node that is this: the earlier one, or a new one, or NONE if there are too many. */
        int make(int type, int first, int second, int kind, int column, int extra) {
            for (int node = 0; node < size && node < MOST_NODES; node++) {
                if (types[node] == type && firsts[node] == first && seconds[node] == second
                        && kinds[node] == kind && columns[node] == column && extras[node] == extra) {
                    return node;
                }
            }
            if (size >= MOST_NODES) {
                return NONE;
            }
            types[size] = type;
            firsts[size] = first;
            seconds[size] = second;
            kinds[size] = kind;
            columns[size] = column;
            extras[size] = extra;
            widths[size] = widthMade(type, first, second, kind);
            size++;
            return size - 1;
        }

        /** Gives up the nodes behind the first so many. */
        void cutTo(int before) {
            if (before >= 0 && before < size) {
                size = before;
            }
        }
    }

    /** The rows that nodes give, kept until a table changes. */
    private static final class Answers {
        private static final int NODE_CELLS = MOST_ROWS * MOST_COLUMNS;

        private final Store store;
        private final Plan plan;
        private final int[] values;
        private final int[] counts;
        private final int[] steps;
        private final int[] madeAt;
        private final boolean[] wanted;
        private final boolean[] gone;

        Answers(Store tables, Plan nodes) {
            store = tables;
            plan = nodes;
            values = new int[MOST_NODES * NODE_CELLS];
            counts = new int[MOST_NODES];
            steps = new int[MOST_NODES];
            madeAt = new int[MOST_NODES];
            wanted = new boolean[MOST_NODES];
            gone = new boolean[MOST_ROWS];
        }

        /** Whether a node can be asked for within a budget; its rows are up to date then. */
        boolean isPossible(int node, int budget) {
            if (!plan.has(node)) {
                return false;
            }
            markWanted(node);
            for (int part = 0; part <= node && part < MOST_NODES; part++) {
                if (wanted[part]) {
                    madeAt[part] = store.changes();
                    counts[part] = 0;
                    finish(part, arePartsPossible(part) && fill(part));
                }
            }
            return countOf(node) != NONE && stepsOf(node) <= budget;
        }

        int countOf(int node) {
            return node >= 0 && node < MOST_NODES ? counts[node] : NONE;
        }

        int stepsOf(int node) {
            return node >= 0 && node < MOST_NODES ? steps[node] : 0;
        }

        int valueAt(int node, int row, int column) {
            int at = node * NODE_CELLS + row * MOST_COLUMNS + column;
            return at >= 0 && at < values.length ? values[at] : UNKNOWN;
        }

        /** The first row of a node with a value in a column, perhaps the unknown one, or NONE. */
        private int findRow(int node, int column, int value) {
            int count = countOf(node);
            int at = node * NODE_CELLS + column;
            for (int row = 0; row < count && at >= 0 && at < values.length; row++) {
                if (values[at] == value) {
                    return row;
                }
                at += MOST_COLUMNS;
            }
            return NONE;
        }

        /** Whether two nodes that are up to date give the same rows, each as often. */
        boolean haveSameRows(int node, int other) {
            if (plan.widthOf(node) != plan.widthOf(other) || countOf(node) != countOf(other)) {
                return false;
            }
            clearGone();
            for (int row = 0; row < countOf(other); row++) {
                if (!takeAway(node, other, row)) {
                    return false;
                }
            }
            return true;
        }

        /** Marks the node and those of which it is made, but for those that are up to date. */
        private void markWanted(int node) {
            for (int part = 0; part < MOST_NODES; part++) {
                wanted[part] = part == node;
            }
            for (int part = MOST_NODES - 1; part >= 0; part--) {
                wanted[part] = wanted[part] && madeAt[part] != store.changes();
                if (wanted[part] && plan.typeOf(part) != SCAN) {
                    want(plan.firstOf(part));
                    want(plan.secondOf(part));
                }
            }
        }

        private void want(int node) {
            if (node >= 0 && node < MOST_NODES) {
                wanted[node] = true;
            }
        }

        /** Works out the steps of a node that has been filled; a count of NONE tells of too many rows. */
        private void finish(int node, boolean isPossible) {
            if (node < 0 || node >= MOST_NODES) {
                return;
            }
            if (!isPossible) {
                counts[node] = NONE;
            }
            int taken = counts[node];
            if (plan.typeOf(node) != SCAN) {
                taken += stepsOf(plan.firstOf(node)) + stepsOf(plan.secondOf(node));
            }
            // Beyond every budget the number does not matter, and it must not grow with each level.
            steps[node] = Math.min(taken, MOST_STEPS + 1);
        }

        private boolean arePartsPossible(int node) {
            if (plan.typeOf(node) == SCAN) {
                return true;
            }
            int second = plan.secondOf(node);
            return countOf(plan.firstOf(node)) != NONE && (second == NONE || countOf(second) != NONE);
        }

        /** Gives a node its rows from its parts, which are up to date; false if there are too many. */
        private boolean fill(int node) {
            switch (plan.typeOf(node)) {
                case SCAN:
                    return fillScan(node);
                case FILTER:
                    return fillFilter(node);
                case JOIN:
                    return plan.kindOf(node) == INNER || plan.kindOf(node) == LEFT
                            ? fillSideBySide(node) : fillStaying(node);
                case GROUP:
                    return fillGroup(node);
                case BAG:
                    return fillBag(node);
                default:
                    return false;
            }
        }

        private boolean fillScan(int node) {
            Table held = store.find(plan.firstOf(node));
            if (held == null) {
                return false;
            }
            for (int row = 0; row < held.count(); row++) {
                int made = newRow(node);
                for (int column = 0; column < held.columns(); column++) {
                    put(node, made, column, held.value(row, column));
                }
            }
            return true;
        }

        private boolean fillFilter(int node) {
            int first = plan.firstOf(node);
            for (int row = 0; row < countOf(first); row++) {
                int value = valueAt(first, row, plan.columnOf(node));
                if (isTrue(plan.kindOf(node), value, plan.extraOf(node))) {
                    copyRow(node, first, row);
                }
            }
            return true;
        }

        private boolean fillSideBySide(int node) {
            int count = countOf(plan.firstOf(node));
            for (int row = 0; row < count; row++) {
                if (!pairUp(node, row)) {
                    return false;
                }
            }
            return true;
        }

        private boolean pairUp(int node, int row) {
            int second = plan.secondOf(node);
            int secondColumn = plan.extraOf(node);
            int value = valueAt(plan.firstOf(node), row, plan.columnOf(node));
            int count = value == UNKNOWN ? 0 : countOf(second);
            boolean met = false;
            for (int other = 0; other < count; other++) {
                if (valueAt(second, other, secondColumn) == value) {
                    met = true;
                    if (!copyPair(node, row, other)) {
                        return false;
                    }
                }
            }
            return met || plan.kindOf(node) == INNER || copyPair(node, row, NONE);
        }

        private boolean fillStaying(int node) {
            int first = plan.firstOf(node);
            for (int row = 0; row < countOf(first); row++) {
                if (stays(node, valueAt(first, row, plan.columnOf(node)))) {
                    copyRow(node, first, row);
                }
            }
            return true;
        }

        /** Whether a row of the first node with this value stays in a SEMI, an ANTI or a NOT IN. */
        private boolean stays(int node, int value) {
            int second = plan.secondOf(node);
            int column = plan.extraOf(node);
            boolean meets = value != UNKNOWN && findRow(second, column, value) != NONE;
            if (plan.kindOf(node) == SEMI) {
                return meets;
            }
            if (plan.kindOf(node) == NOT_IN && countOf(second) > 0) {
                return !meets && value != UNKNOWN && findRow(second, column, UNKNOWN) == NONE;
            }
            return !meets;
        }

        private boolean fillGroup(int node) {
            int first = plan.firstOf(node);
            for (int row = 0; row < countOf(first); row++) {
                int value = valueAt(first, row, plan.columnOf(node));
                if (findRow(node, 0, value) == NONE) {
                    int made = newRow(node);
                    put(node, made, 0, value);
                    put(node, made, 1, summary(node, value));
                }
            }
            return true;
        }

        /** What a group tells of the rows with a value. */
        private int summary(int node, int value) {
            int first = plan.firstOf(node);
            int kind = plan.kindOf(node);
            int by = plan.columnOf(node);
            int column = plan.extraOf(node);
            int count = countOf(first);
            int known = 0;
            int sum = 0;
            int all = 0;
            int best = UNKNOWN;
            for (int row = 0; row < count; row++) {
                if (valueAt(first, row, by) != value) {
                    continue;
                }
                all++;
                int told = valueAt(first, row, column);
                if (told == UNKNOWN) {
                    continue;
                }
                best = known == 0 || isBetter(kind, told, best) ? told : best;
                known++;
                sum += told;
            }
            switch (kind) {
                case COUNT_ROWS:
                    return all;
                case COUNT_KNOWN:
                    return known;
                case SUM:
                    return known == 0 ? UNKNOWN : Math.max(-MOST_VALUE, Math.min(MOST_VALUE, sum));
                default:
                    return best;
            }
        }

        private static boolean isBetter(int kind, int value, int best) {
            return kind == LEAST ? value < best : value > best;
        }

        private boolean fillBag(int node) {
            int first = plan.firstOf(node);
            int second = plan.secondOf(node);
            switch (plan.kindOf(node)) {
                case ALL:
                    return copyAll(node, first) && copyAll(node, second);
                case ONCE:
                    return copyNew(node, first) && copyNew(node, second);
                default:
                    return copyTaken(node, plan.kindOf(node) == BOTH);
            }
        }

        private boolean copyAll(int node, int from) {
            for (int row = 0; row < countOf(from); row++) {
                if (!copyRow(node, from, row)) {
                    return false;
                }
            }
            return true;
        }

        private boolean copyNew(int node, int from) {
            for (int row = 0; row < countOf(from); row++) {
                if (!hasRowOf(node, from, row) && !copyRow(node, from, row)) {
                    return false;
                }
            }
            return true;
        }

        private boolean hasRowOf(int node, int from, int row) {
            int count = countOf(node);
            for (int there = 0; there < count; there++) {
                if (areAlike(node, there, from, row)) {
                    return true;
                }
            }
            return false;
        }

        /** Copies those rows of the first node that the second one takes away, or the others. */
        private boolean copyTaken(int node, boolean taken) {
            int first = plan.firstOf(node);
            int second = plan.secondOf(node);
            clearGone();
            for (int row = 0; row < countOf(second); row++) {
                takeAway(first, second, row);
            }
            for (int row = 0; row < countOf(first) && row < MOST_ROWS; row++) {
                if (gone[row] == taken) {
                    copyRow(node, first, row);
                }
            }
            return true;
        }

        private void clearGone() {
            for (int row = 0; row < MOST_ROWS; row++) {
                gone[row] = false;
            }
        }

        /** Takes away the first row of a node that is there still and the same as one of another node. */
        private boolean takeAway(int node, int other, int row) {
            int count = countOf(node);
            for (int there = 0; there < count && there < MOST_ROWS; there++) {
                if (!gone[there] && areAlike(node, there, other, row)) {
                    gone[there] = true;
                    return true;
                }
            }
            return false;
        }

        /** Whether two rows are the same, unknown values being the same here. */
        private boolean areAlike(int node, int row, int other, int otherRow) {
            int at = node * NODE_CELLS + row * MOST_COLUMNS;
            int otherAt = other * NODE_CELLS + otherRow * MOST_COLUMNS;
            int end = at + plan.widthOf(node);
            while (at < end && at >= 0 && at < values.length && otherAt >= 0 && otherAt < values.length) {
                if (values[at] != values[otherAt]) {
                    return false;
                }
                at++;
                otherAt++;
            }
            return true;
        }

        /** Copies a row behind those of a node; false if there is no room. */
        private boolean copyRow(int node, int from, int row) {
            int made = newRow(node);
            for (int column = 0; column < plan.widthOf(from); column++) {
                put(node, made, column, valueAt(from, row, column));
            }
            return made != NONE;
        }

        /** Copies two rows side by side; unknown values for the other one of NONE. */
        private boolean copyPair(int node, int row, int other) {
            int first = plan.firstOf(node);
            int second = plan.secondOf(node);
            int width = plan.widthOf(first);
            int made = newRow(node);
            for (int column = 0; column < width; column++) {
                put(node, made, column, valueAt(first, row, column));
            }
            for (int column = 0; column < plan.widthOf(second); column++) {
                put(node, made, width + column, other == NONE ? UNKNOWN : valueAt(second, other, column));
            }
            return made != NONE;
        }

        /** Makes a row behind those of a node and returns its number, or NONE if there are too many. */
        private int newRow(int node) {
            if (node < 0 || node >= MOST_NODES || counts[node] >= MOST_ROWS) {
                return NONE;
            }
            counts[node]++;
            return counts[node] - 1;
        }

        private void put(int node, int row, int column, int value) {
            int at = node * NODE_CELLS + row * MOST_COLUMNS + column;
            if (row >= 0 && at >= 0 && at < values.length) {
                values[at] = value;
            }
        }
    }

    /**
     * Moves filters down. It goes from the top to the scans and takes the filters that are on their way
     * down along as numbers, so that it makes no node that is not one of the finished tree: the 24 nodes
     * are room enough then, however big what lies between is.
     */
    private static final class Rewriter {
        private static final int VALUES = 2 * MOST_VALUE + 1;
        private static final int CODES_OF_COLUMN = (IS_KNOWN + 1) * VALUES;
        private static final int LEVELS = MOST_NODES + 1;
        private static final int MOST_SEEN = 256;

        private final Plan plan;
        private final int[] pending;
        private final int[] lengths;
        private final int[] seenNodes;
        private final int[] seenLengths;
        private final int[] seenCodes;
        private final int[] seenResults;
        private int seen;

        Rewriter(Plan nodes) {
            plan = nodes;
            pending = new int[LEVELS * MOST_NODES];
            lengths = new int[LEVELS];
            seenNodes = new int[MOST_SEEN];
            seenLengths = new int[MOST_SEEN];
            seenCodes = new int[MOST_SEEN * MOST_NODES];
            seenResults = new int[MOST_SEEN];
        }

        /** The number of the rewritten node, or NONE (and no new node) if there would be too many. */
        int rewritten(int node) {
            int before = plan.size();
            seen = 0;
            empty(0);
            int made = settle(node, 0);
            if (made == NONE) {
                plan.cutTo(before);
            }
            return made;
        }

        /**
         * A filter as one number, greater where column, then comparison, then value is greater.
         */
        private static int codeOf(int column, int comparison, int value) {
            return column * CODES_OF_COLUMN + comparison * VALUES + value + MOST_VALUE;
        }

        /**
         * Makes the rewritten tree of a node with the pending filters of a level above it, the innermost
         * first. A level's filters are in no order any more afterwards.
         */
        private int settle(int node, int level) {
            if (!plan.has(node) || level < 0 || level >= LEVELS - 1) {
                return NONE;
            }
            int known = find(node, level);
            if (known != NONE) {
                return seenResults[known];
            }
            int place = remember(node, level);
            int made = plan.typeOf(node) == FILTER ? settleFilter(node, level) : settleOther(node, level);
            if (place != NONE) {
                seenResults[place] = made;
            }
            return made;
        }

        private int settleFilter(int node, int level) {
            empty(level + 1);
            append(level + 1, codeOf(plan.columnOf(node), plan.kindOf(node), plan.extraOf(node)));
            for (int i = 0; i < lengthOf(level); i++) {
                append(level + 1, codeAt(level, i));
            }
            return settle(plan.firstOf(node), level + 1);
        }

        private int settleOther(int node, int level) {
            int type = plan.typeOf(node);
            int first = plan.firstOf(node);
            int second = plan.secondOf(node);
            int free = countFree(node, level);
            if (type != SCAN) {
                passToFirst(node, level, free);
                first = settle(first, level + 1);
                if (first == NONE) {
                    return NONE;
                }
            }
            if (second != NONE) {
                passToSecond(node, level, free);
                second = settle(second, level + 1);
                if (second == NONE) {
                    return NONE;
                }
            }
            int made = plan.make(type, first, second, plan.kindOf(node), plan.columnOf(node), plan.extraOf(node));
            return stack(made, level, free);
        }

        /**
         * How many pending filters move below a node: those up to the first that can't. Behind that one
         * none can: a lesser one stays above it, and a greater one has a column as high, which can't either.
         */
        private int countFree(int node, int level) {
            int free = 0;
            while (free < lengthOf(level) && isFree(node, codeAt(level, free))) {
                free++;
            }
            return free;
        }

        private boolean isFree(int node, int code) {
            switch (plan.typeOf(node)) {
                case JOIN:
                    return plan.kindOf(node) == INNER || code < firstCodes(node);
                case BAG:
                    return plan.kindOf(node) == ALL;
                default:
                    return false;
            }
        }

        /** The filters of a join with lesser codes than this are those of its first node. */
        private int firstCodes(int node) {
            return plan.widthOf(plan.firstOf(node)) * CODES_OF_COLUMN;
        }

        private void passToFirst(int node, int level, int free) {
            boolean every = plan.typeOf(node) == BAG;
            empty(level + 1);
            for (int i = 0; i < free; i++) {
                int code = codeAt(level, i);
                if (every || code < firstCodes(node)) {
                    append(level + 1, code);
                }
            }
        }

        private void passToSecond(int node, int level, int free) {
            boolean every = plan.typeOf(node) == BAG;
            empty(level + 1);
            for (int i = 0; i < free; i++) {
                int code = codeAt(level, i);
                if (every) {
                    append(level + 1, code);
                } else if (code >= firstCodes(node)) {
                    append(level + 1, code - firstCodes(node));
                }
            }
        }

        /** Puts the pending filters that do not move above a node: the greatest lies below. */
        private int stack(int node, int level, int free) {
            int made = node;
            for (int i = free; i < lengthOf(level) && made != NONE; i++) {
                bringGreatest(level, i);
                int code = codeAt(level, i);
                int rest = code % CODES_OF_COLUMN;
                made = plan.make(FILTER, made, NONE, rest / VALUES, code / CODES_OF_COLUMN,
                        rest % VALUES - MOST_VALUE);
            }
            return made;
        }

        /** Brings the greatest pending filter, from a place on, to that place. */
        private void bringGreatest(int level, int place) {
            for (int i = place + 1; i < lengthOf(level); i++) {
                int code = codeAt(level, i);
                if (code > codeAt(level, place)) {
                    setCode(level, i, codeAt(level, place));
                    setCode(level, place, code);
                }
            }
        }

        /** Where this node with these pending filters has been settled, or NONE. */
        private int find(int node, int level) {
            for (int place = 0; place < seen && place < MOST_SEEN; place++) {
                if (seenNodes[place] == node && isSeenAt(place, level)) {
                    return place;
                }
            }
            return NONE;
        }

        private boolean isSeenAt(int place, int level) {
            if (place < 0 || place >= MOST_SEEN || seenLengths[place] != lengthOf(level)) {
                return false;
            }
            for (int i = 0; i < lengthOf(level) && i < MOST_NODES; i++) {
                if (seenCodes[place * MOST_NODES + i] != codeAt(level, i)) {
                    return false;
                }
            }
            return true;
        }

        /** Keeps a place for what comes of a node, or NONE without room: it is worked out again then. */
        private int remember(int node, int level) {
            if (seen >= MOST_SEEN) {
                return NONE;
            }
            seenNodes[seen] = node;
            seenLengths[seen] = lengthOf(level);
            seenResults[seen] = NONE;
            for (int i = 0; i < lengthOf(level) && i < MOST_NODES; i++) {
                seenCodes[seen * MOST_NODES + i] = codeAt(level, i);
            }
            seen++;
            return seen - 1;
        }

        private int lengthOf(int level) {
            return level >= 0 && level < LEVELS ? lengths[level] : 0;
        }

        private int codeAt(int level, int i) {
            return i >= 0 && i < lengthOf(level) && i < MOST_NODES ? pending[level * MOST_NODES + i] : 0;
        }

        private void setCode(int level, int i, int code) {
            if (i >= 0 && i < lengthOf(level) && i < MOST_NODES) {
                pending[level * MOST_NODES + i] = code;
            }
        }

        private void empty(int level) {
            if (level >= 0 && level < LEVELS) {
                lengths[level] = 0;
            }
        }

        private void append(int level, int code) {
            if (level >= 0 && level < LEVELS && lengths[level] < MOST_NODES) {
                lengths[level]++;
                setCode(level, lengths[level] - 1, code);
            }
        }
    }

    /** The links, and the best plans that follow from them. */
    private static final class Orders {
        private static final int SETS = 1 << MOST_TABLES;
        private static final int TOO_DEAR = 1000000;

        private final Store store;
        private final int[] firsts;
        private final int[] firstColumns;
        private final int[] seconds;
        private final int[] secondColumns;
        private final int[] sizes;
        private final int[] divisors;
        private final int[] costs;
        private final int[] parts;
        private int count;

        Orders(Store tables) {
            store = tables;
            firsts = new int[MOST_LINKS];
            firstColumns = new int[MOST_LINKS];
            seconds = new int[MOST_LINKS];
            secondColumns = new int[MOST_LINKS];
            sizes = new int[MOST_TABLES];
            divisors = new int[MOST_LINKS];
            costs = new int[SETS];
            parts = new int[SETS];
        }

        boolean isFull() {
            return count >= MOST_LINKS;
        }

        /** Adds a link and returns how many there are then. */
        int append(int first, int firstColumn, int second, int secondColumn) {
            if (count < MOST_LINKS) {
                firsts[count] = first;
                firstColumns[count] = firstColumn;
                seconds[count] = second;
                secondColumns[count] = secondColumn;
                count++;
            }
            return count;
        }

        /** The estimate of a set of tables. */
        int estimateOf(int set) {
            measure();
            return guess(set);
        }

        /** What the best plan for a set of tables costs. */
        int bestCost(int set) {
            planUpTo(set);
            return set >= 0 && set < SETS ? costs[set] : 0;
        }

        /** The part with the lowest table of the best plan for a set of tables. */
        int bestPart(int set) {
            planUpTo(set);
            return set >= 0 && set < SETS ? parts[set] : 0;
        }

        /** Finds the best plans of all sets within a set: a part's number is less than the whole's. */
        private void planUpTo(int set) {
            measure();
            for (int within = 1; within <= set && within < SETS; within++) {
                if ((within & set) == within) {
                    planFor(within);
                }
            }
        }

        /** Asks the tables once for what the estimates of all sets are made of. */
        private void measure() {
            for (int table = 0; table < MOST_TABLES; table++) {
                sizes[table] = Math.max(1, store.countRows(table));
            }
            for (int link = 0; link < count && link < MOST_LINKS; link++) {
                int first = store.countKnownValues(firsts[link], firstColumns[link]);
                int second = store.countKnownValues(seconds[link], secondColumns[link]);
                divisors[link] = Math.max(1, Math.max(first, second));
            }
        }

        private int guess(int set) {
            int product = 1;
            for (int table = 0; table < MOST_TABLES; table++) {
                if (has(set, table)) {
                    product *= sizes[table];
                }
            }
            for (int link = 0; link < count && link < MOST_LINKS; link++) {
                if (has(set, firsts[link]) && has(set, seconds[link]) && divisors[link] > 0) {
                    product /= divisors[link];
                }
            }
            return Math.max(1, product);
        }

        private static boolean has(int set, int table) {
            return (set >> table & 1) == 1;
        }

        /** Finds the best plan of a set from those of its parts, of several the one with the least part. */
        private void planFor(int set) {
            if (set <= 0 || set >= SETS) {
                return;
            }
            int lowest = set & -set;
            int best = TOO_DEAR;
            costs[set] = 0;
            parts[set] = set;
            for (int part = lowest; part < set; part++) {
                boolean isPart = (part & set) == part && (part & lowest) != 0;
                if (isPart && costs[part] + costs[set ^ part] < best) {
                    best = costs[part] + costs[set ^ part];
                    parts[set] = part;
                }
            }
            if (set != lowest) {
                costs[set] = best + guess(set);
            }
        }
    }

    /**
     * The views. The rows that two tables' rows make are different where either row is, so that how often
     * each is there follows from the rows of both tables as they are, after every difference.
     */
    private static final class Views {
        private final Store store;
        private final int[] firsts;
        private final int[] seconds;
        private final int[] firstColumns;
        private final int[] secondColumns;
        private int count;

        Views(Store tables) {
            store = tables;
            firsts = new int[MOST_VIEWS];
            seconds = new int[MOST_VIEWS];
            firstColumns = new int[MOST_VIEWS];
            secondColumns = new int[MOST_VIEWS];
        }

        boolean has(int view) {
            return view >= 0 && view < count && view < MOST_VIEWS;
        }

        boolean hasRows(int view, int row, int other) {
            Table first = firstOf(view);
            Table second = secondOf(view);
            return first != null && second != null && first.hasRow(row) && second.hasRow(other);
        }

        /** Makes a view and returns its number, or NONE if there are too many. */
        int append(int first, int second, int firstColumn, int secondColumn) {
            if (count >= MOST_VIEWS) {
                return NONE;
            }
            firsts[count] = first;
            seconds[count] = second;
            firstColumns[count] = firstColumn;
            secondColumns[count] = secondColumn;
            count++;
            return count - 1;
        }

        private Table firstOf(int view) {
            return has(view) ? store.find(firsts[view]) : null;
        }

        private Table secondOf(int view) {
            return has(view) ? store.find(seconds[view]) : null;
        }

        private boolean meet(int view, int row, int other) {
            Table first = firstOf(view);
            Table second = secondOf(view);
            if (!has(view) || first == null || second == null) {
                return false;
            }
            return areEqual(first.value(row, firstColumns[view]), second.value(other, secondColumns[view]));
        }

        int timesOf(int view, int row, int other) {
            Table first = firstOf(view);
            Table second = secondOf(view);
            if (first == null || second == null || !meet(view, row, other)) {
                return 0;
            }
            return first.countAlike(row) * second.countAlike(other);
        }

        int differentRows(int view) {
            Table first = firstOf(view);
            int rows = 0;
            for (int row = 0; first != null && row < first.count(); row++) {
                if (first.isFirstAlike(row)) {
                    rows += countPartners(view, row);
                }
            }
            return rows;
        }

        /** How many different rows of the second table a row of the first one meets. */
        private int countPartners(int view, int row) {
            Table second = secondOf(view);
            int partners = 0;
            for (int other = 0; second != null && other < second.count(); other++) {
                if (second.isFirstAlike(other) && meet(view, row, other)) {
                    partners++;
                }
            }
            return partners;
        }
    }
}
