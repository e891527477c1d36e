import java.io.IOException;

/**
 * For each sentence of the document that names a boundary case: the last that is allowed, the first that is
 * not, nothing, full, which exception goes first, and that a refused call changes nothing. At the end the
 * document is read, so that each sentence of it must have been named, and none that does not stand there.
 */
public final class EdgesTest {
    private static final String DOCUMENT = "../shared/DOC.md";

    private static void checkSentences(Due due) throws IOException {
        due.endSentences();
        Document document = new Document(DOCUMENT);
        for (String[] sentence : due.sentences) {
            due.isAnswer("\"" + sentence[1] + "\" stands there", "true", "" + document.name(sentence[0], sentence[1]));
        }
        for (String rest : document.rest()) {
            due.tell("no test", "names " + rest);
        }
    }

    public static void main(String[] args) throws IOException {
        Due due = new Due("EdgesTest");
        EdgesOfTheWhole.testAll(due);
        EdgesOfTables.testAll(due);
        EdgesOfQueries.testAll(due);
        EdgesOfAnswers.testAll(due);
        EdgesOfRewriting.testAll(due);
        EdgesOfOrders.testAll(due);
        EdgesOfViews.testAll(due);
        EdgesOfRefusals.testAll(due);
        checkSentences(due);
        due.end();
    }
}
