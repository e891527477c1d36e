import java.io.IOException;
import java.lang.reflect.Constructor;
import java.lang.reflect.Field;
import java.lang.reflect.Method;
import java.lang.reflect.Modifier;
import java.nio.charset.StandardCharsets;
import java.nio.file.Files;
import java.nio.file.Paths;
import java.util.ArrayList;
import java.util.Arrays;
import java.util.Collections;
import java.util.List;
import java.util.regex.Matcher;
import java.util.regex.Pattern;

/** The public face, word for word as it stands in the document, promise 1 (a new object) and the constants. */
public final class FaceTest {
    private static final String DOCUMENT = "../shared/DOC.md";
    private static final String SOURCE = "src/main/java/QueryLoft.java";

    private static final String[] FACE = {
        "boolean same(int,int)", "int add(int,int,int,int)", "int bag(int,int,int)", "int budget(int)",
        "int cell(int,int,int)", "int cost(int)", "int different(int)", "int estimate(int)",
        "int filter(int,int,int,int)", "int group(int,int,int,int)", "int join(int,int,int,int,int)",
        "int link(int,int,int,int)", "int node(int,int)", "int often(int,int,int)", "int rewrite(int)",
        "int rows(int)", "int scan(int)", "int split(int)", "int steps(int)", "int table(int)",
        "int take(int,int)", "int view(int,int,int,int)", "int ways(int)",
    };

    private static String sign(Method method) {
        StringBuilder told = new StringBuilder(method.getReturnType() + " " + method.getName() + "(");
        for (Class<?> type : method.getParameterTypes()) {
            told.append(told.charAt(told.length() - 1) == '(' ? "" : ",").append(type);
        }
        return told.append(")").toString();
    }

    private static void testFace(Due due) {
        List<String> found = new ArrayList<>();
        List<String> names = new ArrayList<>();
        for (Method method : QueryLoft.class.getDeclaredMethods()) {
            if (Modifier.isPublic(method.getModifiers())) {
                found.add(sign(method));
                names.add(method.getName());
            }
        }
        Collections.sort(found);
        due.is("the methods " + found, 1, () -> found.equals(Arrays.asList(FACE)) ? 1 : 0);
        for (Method method : QueryLoft.class.getDeclaredMethods()) {
            int modifiers = method.getModifiers();
            boolean isHidden = Modifier.isPrivate(modifiers) && !names.contains(method.getName());
            due.is("hidden or of the face: " + method, 1, () -> isHidden || Modifier.isPublic(modifiers) ? 1 : 0);
        }
        for (Field field : QueryLoft.class.getDeclaredFields()) {
            boolean isConstant = field.getName().equals("NONE") || field.getName().equals("UNKNOWN");
            due.is("hidden or a constant: " + field, isConstant ? 1 : 0,
                () -> Modifier.isPublic(field.getModifiers()) ? 1 : 0);
            due.is("private but for the constants: " + field, isConstant ? 0 : 1,
                () -> Modifier.isPrivate(field.getModifiers()) ? 1 : 0);
        }
        Constructor<?>[] constructors = QueryLoft.class.getDeclaredConstructors();
        due.is("constructors", 1, () -> constructors.length);
        due.is("a public constructor without parameters", 1, () ->
            Modifier.isPublic(constructors[0].getModifiers()) && constructors[0].getParameterCount() == 0 ? 1 : 0);
        due.is("a final class", 1, () -> Modifier.isFinal(QueryLoft.class.getModifiers()) ? 1 : 0);
    }

    private static String read(String file) throws IOException {
        return new String(Files.readAllBytes(Paths.get(file)), StandardCharsets.UTF_8);
    }

    /** The program as one line, with one blank where there were some. */
    private static String sourceLine() throws IOException {
        return read(SOURCE).replaceAll("\\s+", " ");
    }

    /** Each line of the document's face stands in the program, with all names and exceptions. */
    private static void testDocumentedFace(Due due) throws IOException {
        String source = sourceLine();
        String document = read(DOCUMENT);
        String face = document.substring(document.indexOf("```java\n") + 8, document.indexOf("\n}\n```"));
        String[] lines = face.split("\n");
        due.is("lines of the document's face", 1 + 2 + 1 + 23, () -> lines.length);
        for (String line : lines) {
            String told = line.trim();
            boolean isCall = told.contains("(") && told.endsWith(";");
            String want = isCall ? told.substring(0, told.length() - 1) + " {" : told;
            due.is("in the program once: " + want, 1, () -> countOf(source, want));
        }
    }

    private static int countOf(String source, String part) {
        int count = 0;
        for (int at = source.indexOf(part); at >= 0; at = source.indexOf(part, at + 1)) {
            count++;
        }
        return count;
    }

    /** The exceptions that the document names are those that the compiled methods declare, in that order. */
    private static void testDeclaredExceptions(Due due) throws IOException {
        String document = read(DOCUMENT);
        for (Method method : QueryLoft.class.getDeclaredMethods()) {
            if (Modifier.isPublic(method.getModifiers())) {
                StringBuilder told = new StringBuilder();
                for (Class<?> type : method.getExceptionTypes()) {
                    told.append(told.length() == 0 ? "" : ", ").append(type.getSimpleName());
                }
                Matcher promised = Pattern.compile(" " + method.getName() + "\\([^)]*\\) throws ([^;`]*);").matcher(document);
                due.is("the document's face has " + method.getName(), 1, () -> promised.find() ? 1 : 0);
                due.isAnswer("what " + method.getName() + " throws", promised.group(1), told.toString());
            }
        }
    }

    /** What the interface says ahead of some calls stands ahead of them, and no other call between. */
    private static void testPartsOfTheFace(Due due) throws IOException {
        String source = sourceLine();
        Pattern told = Pattern.compile("Ahead of the calls (.*) the interface says: (---- [a-z ]+)\\.");
        Matcher part = told.matcher(read(DOCUMENT));
        List<String> parts = new ArrayList<>();
        while (part.find()) {
            int from = source.indexOf("// " + part.group(2) + " /**");
            String behind = from < 0 ? "" : source.substring(from + 1);
            int to = behind.indexOf("// ----");
            String calls = callsIn(to < 0 ? behind : behind.substring(0, to));
            due.isAnswer("the calls behind " + part.group(2), part.group(1), calls);
            parts.add(part.group(2));
        }
        due.isAnswer("the parts", "[---- tables, ---- queries, ---- orders of joins, ---- views and ways]", "" + parts);
    }

    /** The public methods of a text, such as "`table`, `add`". */
    private static String callsIn(String text) {
        Matcher call = Pattern.compile("public (?:int|boolean) ([a-z]+)\\(").matcher(text);
        List<String> names = new ArrayList<>();
        while (call.find()) {
            names.add("`" + call.group(1) + "`");
        }
        return String.join(", ", names);
    }

    private static void testNewObject(Due due) {
        QueryLoft loft = new QueryLoft();
        due.refuses("scan of no table", Due.BOUNDS, () -> loft.scan(0));
        due.refuses("add to no table", Due.BOUNDS, () -> loft.add(0, 1, 0, 0));
        due.refuses("take from no table", Due.BOUNDS, () -> loft.take(0, 0));
        due.refuses("ways of no table", Due.BOUNDS, () -> loft.ways(0));
        due.refuses("rows of no node", Due.BOUNDS, () -> loft.rows(0));
        due.refuses("different of no view", Due.BOUNDS, () -> loft.different(0));
        due.refuses("estimate of no table", Due.ARGUMENT, () -> loft.estimate(1));
        due.is("the first table", 0, () -> loft.table(1));
        due.is("the first node", 0, () -> loft.scan(0));
        due.is("the first budget", 100000, () -> loft.budget(5));
        QueryLoft another = new QueryLoft();
        due.refuses("objects share no table", Due.BOUNDS, () -> another.scan(0));
        due.is("objects share no budget", 100000, () -> another.budget(7));
    }

    public static void main(String[] args) throws IOException {
        Due due = new Due("FaceTest");
        due.is("NONE", -1, () -> QueryLoft.NONE);
        due.is("UNKNOWN", -1000, () -> QueryLoft.UNKNOWN);
        testFace(due);
        testDocumentedFace(due);
        testDeclaredExceptions(due);
        testPartsOfTheFace(due);
        testNewObject(due);
        due.end();
    }
}
