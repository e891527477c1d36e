import java.util.ArrayList;
import java.util.Arrays;
import java.util.List;

/**
 * A run of calls on a new object, told as text, with the answers that are due. Behind each call that is
 * refused the object is held against another one on which the calls that answered were made alone.
 */
final class Run {
    private static final int MOST_CALLS = 512;

    private final Due due;
    private final QueryLoft loft = new QueryLoft();
    private final List<String> answered = new ArrayList<>();
    private final String[] looks = new String[Look.PARTS];
    private int calls;

    Run(Due due) {
        this.due = due;
    }

    private String ask(String call) {
        calls++;
        if (calls > MOST_CALLS) {
            throw new AssertionError("an object is used for at most 512 calls");
        }
        return Calls.answer(loft, call);
    }

    /** The call is to answer this. */
    void is(long want, String call) {
        due.isAnswer(call, "" + want, ask(call));
        answered.add(call);
        Arrays.fill(looks, null);
    }

    /** The calls are to answer these numbers, one behind the other. */
    void counts(int first, String... told) {
        for (int i = 0; i < told.length; i++) {
            is(first + i, told[i]);
        }
    }

    /** The calls are to throw exactly this, and to change nothing. */
    void refuses(Class<? extends RuntimeException> want, String... told) {
        for (String call : told) {
            due.isAnswer(call, want.getName(), ask(call));
            for (int part = 0; part < Look.PARTS; part++) {
                if (looks[part] == null) {
                    looks[part] = look(part, null);
                }
                String difference = Look.difference(looks[part], look(part, call));
                due.isAnswer("what changed behind " + call, "", difference);
            }
        }
    }

    /** Makes the calls that answered of another object, too. */
    void repeat(QueryLoft other) {
        for (String call : answered) {
            Calls.answer(other, call);
        }
    }

    private String look(int part, String refused) {
        QueryLoft other = new QueryLoft();
        repeat(other);
        if (refused != null) {
            Calls.answer(other, refused);
        }
        return Look.at(other, part, answered.size() + 1);
    }

    /** The node is to give these rows, such as "1 2|3 -", with - for an unknown value. */
    void gives(String want, int node) {
        String[] rows = want.isEmpty() ? new String[0] : want.split("\\|");
        is(rows.length, Calls.tell("rows", node));
        for (int row = 0; row < rows.length; row++) {
            String[] cells = rows[row].split(" ");
            for (int column = 0; column < cells.length; column++) {
                is(valueOf(cells[column]), Calls.tell("cell", node, row, column));
            }
        }
    }

    private static int valueOf(String cell) {
        return cell.equals("-") ? QueryLoft.UNKNOWN : Integer.parseInt(cell);
    }

    /** Makes the next table, with these rows, such as "1 2|3 -". */
    void table(int number, int columns, String rows) {
        is(number, Calls.tell("table", columns));
        String[] told = rows.isEmpty() ? new String[0] : rows.split("\\|");
        for (int row = 0; row < told.length; row++) {
            int[] values = new int[3];
            String[] cells = told[row].split(" ");
            for (int i = 0; i < cells.length; i++) {
                values[i] = valueOf(cells[i]);
            }
            is(row + 1, Calls.tell("add", number, values[0], values[1], values[2]));
        }
    }

    /** Makes filters that are all unlike, from the next number on up to this one. */
    void fillNodes(int next, int last) {
        for (int node = next; node <= last; node++) {
            is(node, Calls.tell("filter", 0, 0, 1, node));
        }
    }
}
