import java.util.ArrayList;
import java.util.Arrays;
import java.util.Collections;
import java.util.HashMap;
import java.util.List;
import java.util.Map;
import java.util.Objects;
import java.util.TreeSet;

/**
 * The document once more, word for word and without a care for room: what ModelTest holds against the
 * program. Rows are lists, with null for an unknown value; a query is a tree that is rewritten as the
 * document tells it, step by step.
 */
final class Model {
    private static final int UNKNOWN = -1000;

    /** A tree of a query: what it is, its numbers and its parts. */
    static final class Tree {
        final int type;
        final int[] numbers;
        final Tree first;
        final Tree second;
        final int columns;

        private Tree(int type, int[] numbers, Tree first, Tree second, int columns) {
            this.type = type;
            this.numbers = numbers;
            this.first = first;
            this.second = second;
            this.columns = columns;
        }
    }

    /** A node of the engine: a tree of which the parts are nodes. */
    private static final class Node {
        final Tree tree;
        final int first;
        final int second;

        Node(Tree tree, int first, int second) {
            this.tree = tree;
            this.first = first;
            this.second = second;
        }
    }

    private final List<Integer> widths = new ArrayList<>();
    private final List<List<List<Integer>>> tables = new ArrayList<>();
    private final List<Node> nodes = new ArrayList<>();
    private final Map<List<Object>, Tree> trees = new HashMap<>();
    private final Map<Tree, Tree> finished = new HashMap<>();
    private final List<int[]> links = new ArrayList<>();
    private final List<int[]> views = new ArrayList<>();
    private final List<Map<List<Integer>, Integer>> contents = new ArrayList<>();
    private int budget = 100000;

    private static void bounds(boolean isThere) {
        if (!isThere) {
            throw new IndexOutOfBoundsException();
        }
    }

    private static void argument(boolean isRight) {
        if (!isRight) {
            throw new IllegalArgumentException();
        }
    }

    private static void state(boolean isPossible) {
        if (!isPossible) {
            throw new IllegalStateException();
        }
    }

    private boolean hasTable(int table) {
        return 0 <= table && table < tables.size();
    }

    private boolean hasTableColumn(int table, int column) {
        return hasTable(table) && 0 <= column && column < widths.get(table);
    }

    private boolean hasNode(int node) {
        return 0 <= node && node < nodes.size();
    }

    private boolean hasNodeColumn(int node, int column) {
        return hasNode(node) && 0 <= column && column < nodes.get(node).tree.columns;
    }

    private static Integer known(int value) {
        return value == UNKNOWN ? null : value;
    }

    int nodeCount() {
        return nodes.size();
    }

    int tableCount() {
        return tables.size();
    }

    int rowCount(int table) {
        return hasTable(table) ? tables.get(table).size() : 0;
    }

    int columns(int node) {
        return hasNode(node) ? nodes.get(node).tree.columns : 0;
    }

    int table(int columns) {
        argument(1 <= columns && columns <= 3);
        state(tables.size() < 4);
        widths.add(columns);
        tables.add(new ArrayList<>());
        return tables.size() - 1;
    }

    int add(int table, int a, int b, int c) {
        bounds(hasTable(table));
        List<Integer> row = new ArrayList<>();
        int[] values = {a, b, c};
        for (int i = 0; i < 3; i++) {
            if (i < widths.get(table)) {
                argument(values[i] == UNKNOWN || -99 <= values[i] && values[i] <= 99);
                row.add(known(values[i]));
            } else {
                argument(values[i] == 0);
            }
        }
        state(tables.get(table).size() < 10);
        tables.get(table).add(row);
        change(table, row, 1);
        return tables.get(table).size();
    }

    int take(int table, int row) {
        bounds(hasTable(table) && 0 <= row && row < tables.get(table).size());
        change(table, tables.get(table).remove(row), -1);
        return tables.get(table).size();
    }

    /** Keeps the views up by what a row meets alone. */
    private void change(int table, List<Integer> row, int by) {
        for (int view = 0; view < views.size(); view++) {
            int[] told = views.get(view);
            if (told[0] == table) {
                for (List<Integer> other : tables.get(told[1])) {
                    count(view, row, other, by);
                }
            } else if (told[1] == table) {
                for (List<Integer> other : tables.get(told[0])) {
                    count(view, other, row, by);
                }
            }
        }
    }

    private void count(int view, List<Integer> row, List<Integer> other, int by) {
        int[] told = views.get(view);
        Integer value = row.get(told[2]);
        if (value != null && value.equals(other.get(told[3]))) {
            contents.get(view).merge(beside(row, other), by, Integer::sum);
        }
    }

    private static List<Integer> beside(List<Integer> row, List<Integer> other) {
        List<Integer> both = new ArrayList<>(row);
        both.addAll(other);
        return both;
    }

    /** The same tree is the same object, so that one with the same part many times stays small. */
    private Tree tree(int type, int[] numbers, Tree first, Tree second, int columns) {
        List<Object> key = Arrays.asList(type, Arrays.toString(numbers), first, second);
        return trees.computeIfAbsent(key, told -> new Tree(type, numbers, first, second, columns));
    }

    private Tree withParts(Tree tree, Tree first, Tree second) {
        return tree(tree.type, tree.numbers, first, second, tree.columns);
    }

    private Tree filterOf(Tree part, int... numbers) {
        return tree(1, numbers, part, null, part.columns);
    }

    private int find(int type, int[] numbers, int first, int second) {
        for (int node = 0; node < nodes.size(); node++) {
            Node there = nodes.get(node);
            if (there.tree.type == type && Arrays.equals(there.tree.numbers, numbers)
                    && there.first == first && there.second == second) {
                return node;
            }
        }
        return -1;
    }

    private int make(int type, int[] numbers, int first, int second, int columns) {
        int there = find(type, numbers, first, second);
        if (there >= 0) {
            return there;
        }
        state(nodes.size() < 24);
        Tree firstTree = first < 0 ? null : nodes.get(first).tree;
        Tree secondTree = second < 0 ? null : nodes.get(second).tree;
        nodes.add(new Node(tree(type, numbers, firstTree, secondTree, columns), first, second));
        return nodes.size() - 1;
    }

    int scan(int table) {
        bounds(hasTable(table));
        return make(0, new int[] {table}, -1, -1, widths.get(table));
    }

    int filter(int node, int column, int comparison, int value) {
        bounds(hasNodeColumn(node, column));
        argument(0 <= comparison && comparison <= 5);
        argument(-99 <= value && value <= 99 && (comparison < 4 || value == 0));
        return make(1, new int[] {column, comparison, value}, node, -1, columns(node));
    }

    int join(int first, int second, int column, int secondColumn, int kind) {
        bounds(hasNodeColumn(first, column) && hasNodeColumn(second, secondColumn));
        argument(0 <= kind && kind <= 4);
        int columns = kind > 1 ? columns(first) : columns(first) + columns(second);
        state(columns <= 6);
        return make(2, new int[] {kind, column, secondColumn}, first, second, columns);
    }

    int group(int node, int by, int kind, int column) {
        bounds(hasNodeColumn(node, by) && (kind == 0 || hasNodeColumn(node, column)));
        argument(0 <= kind && kind <= 4 && (kind != 0 || column == 0));
        return make(3, new int[] {by, kind, column}, node, -1, 2);
    }

    int bag(int first, int second, int kind) {
        bounds(hasNode(first) && hasNode(second));
        argument(0 <= kind && kind <= 3);
        state(columns(first) == columns(second));
        return make(4, new int[] {kind}, first, second, columns(first));
    }

    /** All rows of a node within the budget. */
    private List<List<Integer>> ask(int node) {
        Map<Integer, List<List<Integer>>> given = new HashMap<>();
        Map<Integer, Long> steps = new HashMap<>();
        give(node, given, steps);
        state(steps.get(node) <= budget);
        return given.get(node);
    }

    private void give(int node, Map<Integer, List<List<Integer>>> given, Map<Integer, Long> steps) {
        if (node < 0 || given.containsKey(node)) {
            return;
        }
        Node asked = nodes.get(node);
        give(asked.first, given, steps);
        give(asked.second, given, steps);
        List<List<Integer>> rows = rowsOf(asked.tree, given.get(asked.first), given.get(asked.second));
        state(rows.size() <= 200);
        given.put(node, rows);
        steps.put(node, rows.size() + steps.getOrDefault(asked.first, 0L) + steps.getOrDefault(asked.second, 0L));
    }

    private List<List<Integer>> rowsOf(Tree tree, List<List<Integer>> first, List<List<Integer>> second) {
        int[] numbers = tree.numbers;
        switch (tree.type) {
            case 0:
                return new ArrayList<>(tables.get(numbers[0]));
            case 1:
                List<List<Integer>> taken = new ArrayList<>();
                for (List<Integer> row : first) {
                    if (Objects.equals(truth(row.get(numbers[0]), numbers[1], numbers[2]), true)) {
                        taken.add(row);
                    }
                }
                return taken;
            case 2:
                return joined(numbers, first, second, tree.second.columns);
            case 3:
                return grouped(numbers, first);
            default:
                return bagged(numbers[0], first, second);
        }
    }

    /** True, false or, for unknown, null. */
    private static Boolean truth(Integer value, int comparison, Integer other) {
        if (comparison >= 4) {
            return (value == null) == (comparison == 4);
        }
        if (value == null || other == null) {
            return null;
        }
        int order = Integer.compare(value, other);
        return comparison == 0 ? order == 0 : comparison == 1 ? order != 0 : comparison == 2 ? order < 0 : order > 0;
    }

    private static List<List<Integer>> joined(int[] numbers, List<List<Integer>> first,
            List<List<Integer>> second, int width) {
        List<List<Integer>> rows = new ArrayList<>();
        for (List<Integer> row : first) {
            int met = 0;
            int unlike = 0;
            for (List<Integer> other : second) {
                if (Objects.equals(truth(row.get(numbers[1]), 0, other.get(numbers[2])), true)) {
                    met++;
                    if (numbers[0] < 2) {
                        rows.add(beside(row, other));
                    }
                }
                if (Objects.equals(truth(row.get(numbers[1]), 1, other.get(numbers[2])), true)) {
                    unlike++;
                }
            }
            if (numbers[0] == 1 && met == 0) {
                rows.add(beside(row, Collections.nCopies(width, null)));
            }
            if (numbers[0] == 2 && met > 0 || numbers[0] == 3 && met == 0
                    || numbers[0] == 4 && unlike == second.size()) {
                rows.add(row);
            }
        }
        return rows;
    }

    private static List<List<Integer>> grouped(int[] numbers, List<List<Integer>> first) {
        List<Integer> values = new ArrayList<>();
        for (List<Integer> row : first) {
            if (!values.contains(row.get(numbers[0]))) {
                values.add(row.get(numbers[0]));
            }
        }
        List<List<Integer>> rows = new ArrayList<>();
        for (Integer value : values) {
            int count = 0;
            int sum = 0;
            List<Integer> told = new ArrayList<>();
            for (List<Integer> row : first) {
                if (Objects.equals(row.get(numbers[0]), value)) {
                    count++;
                    if (row.get(numbers[2]) != null) {
                        told.add(row.get(numbers[2]));
                        sum += row.get(numbers[2]);
                    }
                }
            }
            Integer result;
            if (numbers[1] < 2) {
                result = numbers[1] == 0 ? count : told.size();
            } else if (told.isEmpty()) {
                result = null;
            } else if (numbers[1] == 2) {
                result = sum < -99 ? -99 : sum > 99 ? 99 : sum;
            } else {
                result = numbers[1] == 3 ? Collections.min(told) : Collections.max(told);
            }
            rows.add(Arrays.asList(value, result));
        }
        return rows;
    }

    private static List<List<Integer>> bagged(int kind, List<List<Integer>> first, List<List<Integer>> second) {
        List<List<Integer>> all = new ArrayList<>(first);
        all.addAll(second);
        if (kind == 0) {
            return all;
        }
        if (kind == 3) {
            List<List<Integer>> once = new ArrayList<>();
            for (List<Integer> row : all) {
                if (!once.contains(row)) {
                    once.add(row);
                }
            }
            return once;
        }
        boolean[] gone = new boolean[first.size()];
        for (List<Integer> row : second) {
            for (int i = 0; i < gone.length; i++) {
                if (!gone[i] && first.get(i).equals(row)) {
                    gone[i] = true;
                    break;
                }
            }
        }
        List<List<Integer>> rows = new ArrayList<>();
        for (int i = 0; i < gone.length; i++) {
            if (gone[i] == (kind == 2)) {
                rows.add(first.get(i));
            }
        }
        return rows;
    }

    int rows(int node) {
        bounds(hasNode(node));
        return ask(node).size();
    }

    int cell(int node, int row, int column) {
        bounds(hasNodeColumn(node, column) && row >= 0);
        List<List<Integer>> rows = ask(node);
        bounds(row < rows.size());
        Integer value = rows.get(row).get(column);
        return value == null ? UNKNOWN : value;
    }

    boolean same(int node, int other) {
        bounds(hasNode(node) && hasNode(other));
        List<List<Integer>> rows = ask(node);
        List<List<Integer>> others = new ArrayList<>(ask(other));
        if (columns(node) != columns(other) || rows.size() != others.size()) {
            return false;
        }
        for (List<Integer> row : rows) {
            if (!others.remove(row)) {
                return false;
            }
        }
        return true;
    }

    int steps(int node) {
        bounds(hasNode(node));
        ask(node);
        return (int) stepsOf(node);
    }

    private long stepsOf(int node) {
        Map<Integer, Long> steps = new HashMap<>();
        give(node, new HashMap<>(), steps);
        return steps.get(node);
    }

    int budget(int steps) {
        argument(1 <= steps && steps <= 100000);
        int before = budget;
        budget = steps;
        return before;
    }

    int rewrite(int node) {
        bounds(hasNode(node));
        Tree wanted = rewritten(nodes.get(node).tree);
        int before = nodes.size();
        try {
            return place(wanted, new HashMap<>());
        } catch (IllegalStateException e) {
            while (nodes.size() > before) {
                nodes.remove(nodes.size() - 1);
            }
            throw e;
        }
    }

    private int place(Tree tree, Map<Tree, Integer> placed) {
        if (tree == null) {
            return -1;
        }
        if (!placed.containsKey(tree)) {
            int first = place(tree.first, placed);
            int second = place(tree.second, placed);
            placed.put(tree, make(tree.type, tree.numbers, first, second, tree.columns));
        }
        return placed.get(tree);
    }

    private Tree rewritten(Tree tree) {
        if (tree == null || tree.type == 0) {
            return tree;
        }
        if (!finished.containsKey(tree)) {
            Tree top = withParts(tree, rewritten(tree.first), rewritten(tree.second));
            Tree moved = moved(top);
            finished.put(tree, moved == null ? top : rewritten(moved));
        }
        return finished.get(tree);
    }

    /** What comes of moving the filter at the top down, or null if that can't be done. */
    private Tree moved(Tree top) {
        if (top.type != 1) {
            return null;
        }
        Tree below = top.first;
        int column = top.numbers[0];
        if (below.type == 1) {
            return isGreater(top.numbers, below.numbers)
                ? withParts(below, withParts(top, below.first, null), null) : null;
        }
        if (below.type == 4 && below.numbers[0] == 0) {
            return withParts(below, filterOf(below.first, top.numbers), filterOf(below.second, top.numbers));
        }
        if (below.type == 2 && column < below.first.columns) {
            return withParts(below, filterOf(below.first, top.numbers), below.second);
        }
        if (below.type == 2 && below.numbers[0] == 0) {
            int[] numbers = {column - below.first.columns, top.numbers[1], top.numbers[2]};
            return withParts(below, below.first, filterOf(below.second, numbers));
        }
        return null;
    }

    private static boolean isGreater(int[] numbers, int[] others) {
        for (int i = 0; i < 3; i++) {
            if (numbers[i] != others[i]) {
                return numbers[i] > others[i];
            }
        }
        return false;
    }

    int node(int node, int what) {
        bounds(hasNode(node));
        argument(0 <= what && what <= 3);
        Node told = nodes.get(node);
        switch (what) {
            case 0:
                return told.tree.type;
            case 1:
                return told.tree.type == 0 ? told.tree.numbers[0] : told.first;
            case 2:
                return told.second;
            default:
                return told.tree.columns;
        }
    }

    int link(int table, int column, int other, int otherColumn) {
        bounds(hasTableColumn(table, column) && hasTableColumn(other, otherColumn));
        argument(table != other);
        state(links.size() < 6);
        links.add(new int[] {table, column, other, otherColumn});
        return links.size();
    }

    private int knownValues(int table, int column) {
        TreeSet<Integer> values = new TreeSet<>();
        for (List<Integer> row : tables.get(table)) {
            if (row.get(column) != null) {
                values.add(row.get(column));
            }
        }
        return values.size();
    }

    private void wantSet(int set) {
        argument(set > 0 && set < 1 << tables.size());
    }

    int estimate(int set) {
        wantSet(set);
        int estimate = 1;
        for (int table = 0; table < tables.size(); table++) {
            if ((set & 1 << table) != 0) {
                estimate *= Math.max(1, tables.get(table).size());
            }
        }
        for (int[] link : links) {
            if ((set & 1 << link[0]) != 0 && (set & 1 << link[2]) != 0) {
                estimate /= Math.max(1, Math.max(knownValues(link[0], link[1]), knownValues(link[2], link[3])));
            }
        }
        return Math.max(1, estimate);
    }

    int cost(int set) {
        wantSet(set);
        if (Integer.bitCount(set) == 1) {
            return 0;
        }
        int best = Integer.MAX_VALUE;
        for (int part = 1; part < set; part++) {
            if ((part & ~set) == 0) {
                best = Math.min(best, cost(part) + cost(set - part) + estimate(set));
            }
        }
        return best;
    }

    int split(int set) {
        wantSet(set);
        if (Integer.bitCount(set) == 1) {
            return set;
        }
        for (int part = 1; part < set; part++) {
            boolean isPart = (part & ~set) == 0 && (part & Integer.lowestOneBit(set)) != 0;
            if (isPart && cost(part) + cost(set - part) + estimate(set) == cost(set)) {
                return part;
            }
        }
        throw new AssertionError("no best plan");
    }

    int view(int table, int other, int column, int otherColumn) {
        bounds(hasTableColumn(table, column) && hasTableColumn(other, otherColumn));
        argument(table != other);
        state(views.size() < 4);
        views.add(new int[] {table, other, column, otherColumn});
        contents.add(new HashMap<>());
        int view = views.size() - 1;
        for (List<Integer> row : tables.get(table)) {
            for (List<Integer> otherRow : tables.get(other)) {
                count(view, row, otherRow, 1);
            }
        }
        return view;
    }

    int different(int view) {
        bounds(0 <= view && view < views.size());
        int different = 0;
        for (int times : contents.get(view).values()) {
            different += times > 0 ? 1 : 0;
        }
        return different;
    }

    int often(int view, int row, int other) {
        bounds(0 <= view && view < views.size());
        int[] told = views.get(view);
        bounds(0 <= row && row < rowCount(told[0]) && 0 <= other && other < rowCount(told[1]));
        List<Integer> made = beside(tables.get(told[0]).get(row), tables.get(told[1]).get(other));
        return contents.get(view).getOrDefault(made, 0);
    }

    int ways(int table) {
        bounds(hasTable(table));
        state(widths.get(table) > 1);
        TreeSet<Integer> pairs = new TreeSet<>();
        int before = -1;
        for (List<Integer> row : tables.get(table)) {
            if (row.get(0) != null && row.get(1) != null) {
                pairs.add(row.get(0) * 1000 + row.get(1));
            }
        }
        while (pairs.size() > before) {
            before = pairs.size();
            List<Integer> more = new ArrayList<>();
            for (int pair : pairs) {
                for (int next : pairs) {
                    int end = Math.floorMod(pair + 500, 1000) - 500;
                    int start = Math.floorDiv(next + 500, 1000);
                    if (end == start) {
                        more.add((pair - end) + Math.floorMod(next + 500, 1000) - 500);
                    }
                }
            }
            pairs.addAll(more);
        }
        return pairs.size();
    }
}
