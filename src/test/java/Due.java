import java.util.ArrayList;
import java.util.List;

/** Counts the calls whose answer is not the one that is due. */
final class Due {
    interface Call {
        long answer();
    }

    static final Class<? extends RuntimeException> BOUNDS = IndexOutOfBoundsException.class;
    static final Class<? extends RuntimeException> ARGUMENT = IllegalArgumentException.class;
    static final Class<? extends RuntimeException> STATE = IllegalStateException.class;

    /** The sentences of the document that were named, as pairs of a heading and a sentence. */
    final List<String[]> sentences = new ArrayList<>();

    private final String test;
    private String sentence = "";
    private int calls;
    private int callsBefore = -1;
    private int wrong;

    Due(String test) {
        this.test = test;
    }

    /** The calls from here on test these sentences of the document, which stand under this heading. */
    void sentence(String heading, String... told) {
        checkCalls();
        sentence = "";
        callsBefore = calls;
        also(heading, told);
    }

    /** They test these, too, which stand under another heading. */
    void also(String heading, String... told) {
        sentence += heading + ", \"" + told[0] + "\": ";
        for (String one : told) {
            sentences.add(new String[] {heading, one});
        }
    }

    /** A sentence that is named without a call behind it would not be tested. */
    private void checkCalls() {
        if (callsBefore == calls) {
            tell("no call", "tests this");
        }
    }

    /** No sentence is tested from here on. */
    void endSentences() {
        checkCalls();
        sentence = "";
        callsBefore = -1;
    }

    /** The answer of a call that has been made is to be this. */
    void isAnswer(String call, String want, String got) {
        calls++;
        if (!got.equals(want)) {
            tell(call, "answered " + got + ", due is " + want);
        }
    }

    /** The call is to answer this. */
    void is(String call, long want, Call made) {
        calls++;
        try {
            long got = made.answer();
            if (got != want) {
                tell(call, "answered " + got + ", due is " + want);
            }
        } catch (RuntimeException thrown) {
            tell(call, "threw " + thrown + ", due is " + want);
        }
    }

    /** The call is to throw exactly this, by a throw of its own. */
    void refuses(String call, Class<? extends RuntimeException> want, Call made) {
        calls++;
        try {
            tell(call, "answered " + made.answer() + ", due is " + want.getName());
        } catch (RuntimeException thrown) {
            if (thrown.getClass() != want) {
                tell(call, "threw " + thrown + ", due is " + want.getName());
            }
        }
    }

    void tell(String call, String what) {
        wrong++;
        if (wrong <= 20) {
            System.out.println(test + ": " + sentence + call + " " + what);
        }
    }

    void end() {
        System.out.println(test + ": " + calls + " calls, " + wrong + " wrong");
        if (wrong != 0) {
            System.exit(1);
        }
    }

    /** All rows that a node gives, such as "1 2|3 -", with - for an unknown value. */
    static String rowsOf(QueryLoft loft, int node) {
        StringBuilder told = new StringBuilder();
        int rows = loft.rows(node);
        int columns = loft.node(node, 3);
        for (int row = 0; row < rows; row++) {
            told.append(row == 0 ? "" : "|");
            for (int column = 0; column < columns; column++) {
                int value = loft.cell(node, row, column);
                told.append(column == 0 ? "" : " ").append(value == QueryLoft.UNKNOWN ? "-" : "" + value);
            }
        }
        return told.toString();
    }

    void gives(String what, String want, QueryLoft loft, int node) {
        calls++;
        try {
            String got = rowsOf(loft, node);
            if (!got.equals(want)) {
                tell(what, "gives " + got + ", due is " + want);
            }
        } catch (RuntimeException thrown) {
            tell(what, "threw " + thrown + ", due is " + want);
        }
    }

    /** Adds a table with these rows, such as "1 2|3 -", and returns its number. */
    static int tableOf(QueryLoft loft, int columns, String rows) {
        int table = loft.table(columns);
        for (String row : rows.isEmpty() ? new String[0] : rows.split("\\|")) {
            int[] values = new int[3];
            String[] cells = row.split(" ");
            for (int i = 0; i < cells.length; i++) {
                values[i] = cells[i].equals("-") ? QueryLoft.UNKNOWN : Integer.parseInt(cells[i]);
            }
            loft.add(table, values[0], values[1], values[2]);
        }
        return table;
    }
}
