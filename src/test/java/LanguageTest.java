import java.io.IOException;
import java.lang.reflect.Field;
import java.lang.reflect.Method;
import java.lang.reflect.Modifier;
import java.nio.charset.StandardCharsets;
import java.nio.file.Files;
import java.nio.file.Paths;
import java.util.ArrayList;
import java.util.Arrays;
import java.util.HashSet;
import java.util.List;
import java.util.Set;
import java.util.TreeSet;
import java.util.regex.Matcher;
import java.util.regex.Pattern;

/**
 * The rules of ../shared/LANGUAGE.md that can be seen in the program's text and its compiled classes. They are
 * narrower here than there where the program needs less: no library but Math's max and min, no try, and no
 * object made outside of constructors but for the exceptions.
 */
public final class LanguageTest {
    private static final String SOURCE = "src/main/java/QueryLoft.java";
    private static final Set<String> EXCEPTIONS = new HashSet<>(Arrays.asList("IllegalStateException",
        "IllegalArgumentException", "IndexOutOfBoundsException"));
    private static final int MOST_CLASSES = 12;
    private static final int MOST_FIELDS = 20;
    private static final int MOST_PARAMETERS = 7;
    private static final int MOST_LINES = 60;

    /** The program's classes, the outermost first. */
    private static List<Class<?>> classes() {
        List<Class<?>> classes = new ArrayList<>();
        classes.add(QueryLoft.class);
        classes.addAll(Arrays.asList(QueryLoft.class.getDeclaredClasses()));
        return classes;
    }

    private static String source() throws IOException {
        return new String(Files.readAllBytes(Paths.get(SOURCE)), StandardCharsets.ISO_8859_1);
    }

    /** The program without its comments and without what stands in its texts. */
    private static String code() throws IOException {
        return source().replaceAll("(?s)/\\*.*?\\*/", "").replaceAll("//[^\\n]*", "").replaceAll("\"[^\"\\n]*\"", "\"\"");
    }

    /** What a pattern finds, sorted, each once. */
    private static Set<String> found(String text, String pattern) {
        Set<String> found = new TreeSet<>();
        Matcher matcher = Pattern.compile(pattern).matcher(text);
        while (matcher.find()) {
            found.add(matcher.group());
        }
        return found;
    }

    private static void isNothing(Due due, String what, Object found) {
        due.isAnswer(what, "[]", "" + found);
    }

    /** Rules 1, 2 and 11: which classes and methods there are. */
    private static void testClasses(Due due) {
        Set<String> names = new HashSet<>();
        for (Method method : QueryLoft.class.getMethods()) {
            names.add(method.getName());
        }
        due.is("no package", 1, () -> QueryLoft.class.getName().equals("QueryLoft") ? 1 : 0);
        due.is("some twelve classes", 1, () -> classes().size() <= MOST_CLASSES ? 1 : 0);
        for (Class<?> one : classes()) {
            int modifiers = one.getModifiers();
            boolean isOutermost = one == QueryLoft.class;
            due.is("static within and not public: " + one, isOutermost ? 0 : 1, () -> Modifier.isStatic(modifiers) ? 1 : 0);
            due.is("public: " + one, isOutermost ? 1 : 0, () -> Modifier.isPublic(modifiers) ? 1 : 0);
            due.is("not protected: " + one, 0, () -> Modifier.isProtected(modifiers) ? 1 : 0);
            isNothing(due, "classes in " + one, isOutermost ? "[]" : Arrays.toString(one.getDeclaredClasses()));
            for (Method method : one.getDeclaredMethods()) {
                boolean isOfTheFace = isOutermost && Modifier.isPublic(method.getModifiers());
                due.is("a name of its own: " + method, 1, () -> isOfTheFace || !names.contains(method.getName()) ? 1 : 0);
                due.is("few parameters: " + method, 1, () -> method.getParameterCount() <= MOST_PARAMETERS ? 1 : 0);
            }
        }
    }

    /** Rules 3, 5 and 11: fields are numbers, truths, arrays of these or of own classes; what is static is constant. */
    private static void testFields(Due due) {
        for (Class<?> one : classes()) {
            int fields = 0;
            for (Field field : one.getDeclaredFields()) {
                Class<?> type = field.getType();
                Class<?> part = type.isArray() ? type.getComponentType() : type;
                due.is("a plain type: " + field, 1, () -> part.isPrimitive() || classes().contains(part) ? 1 : 0);
                boolean isStatic = Modifier.isStatic(field.getModifiers());
                boolean isConstant = Modifier.isFinal(field.getModifiers()) && type == int.class;
                due.is("a constant number if static: " + field, 1, () -> isConstant || !isStatic ? 1 : 0);
                fields += isStatic ? 0 : 1;
            }
            int count = fields;
            due.is("some twenty fields: " + one, 1, () -> count <= MOST_FIELDS ? 1 : 0);
        }
    }

    /** Rules 2 to 6, 10, 12 and 13: words that do not stand in the program. */
    private static void testWords(Due due) throws IOException {
        String code = code();
        Set<String> names = found(code, "\\b[A-Z]\\w*[a-z]\\w*");
        for (Class<?> one : classes()) {
            names.remove(one.getSimpleName());
        }
        names.removeAll(EXCEPTIONS);
        due.isAnswer("names of the library", "[Math]", "" + names);
        due.isAnswer("what is used of it", "[Math.max(, Math.min(]", "" + found(code, "Math\\s*\\.\\s*\\w+\\s*\\(?"));
        isNothing(due, "words that are not allowed", found(code, "\\b(import|package|try|catch|finally|synchronized|assert|"
            + "throws\\s+Exception|interface|enum|record|var|native|volatile|transient|strictfp|protected|double|float|"
            + "instanceof|yield|goto|hashCode|equals|toString)\\b"));
        isNothing(due, "lambdas, references to methods, annotations", found(code, "->|::|@"));
        isNothing(due, "joined texts", found(code, "\"\\s*\\+|\\+\\s*\""));
        isNothing(due, "static blocks", found(code, "\\bstatic\\s*\\{"));
        isNothing(due, "signs beyond 126", found(source(), "[^\\n -~]"));
    }

    /** Rule 6: what is thrown is new, and of a class that the document names, with a text written out. */
    private static void testThrows(Due due) throws IOException {
        Set<String> thrown = found(code(), "\\bthrow\\b[^;]*;");
        for (String one : thrown) {
            String name = one.replaceAll("throw new (\\w+)\\(\"\"\\);", "$1");
            due.is("a new exception: " + one, 1, () -> EXCEPTIONS.contains(name) ? 1 : 0);
        }
        due.is("kinds of exceptions", EXCEPTIONS.size(), () -> thrown.size());
    }

    /** Rules 6, 11 and 12: methods are short, constructors throw nothing, and objects are made by these alone. */
    private static void testMethods(Due due) throws IOException {
        Matcher method = Pattern.compile("(?ms)^((?: {4}){1,2})(?:public |private |static |final )*"
            + "(?!class |return |throw |else )(?:[\\w\\[\\]]+ )?(\\w+)\\([^;{}=]*\\{\\n(.*?)^\\1\\}\\n").matcher(code());
        int methods = 0;
        while (method.find()) {
            String name = method.group(2);
            boolean isConstructor = Character.isUpperCase(name.charAt(0));
            int lines = method.group().split("\\n").length;
            due.is(name + " is short", 1, () -> lines <= MOST_LINES ? 1 : 0);
            isNothing(due, name + " makes or throws", found(method.group(3),
                isConstructor ? "\\bthrow\\b" : "(?<!throw )\\bnew\\b|\\bclone\\b"));
            methods++;
        }
        int found = methods;
        due.is("methods and constructors found in the text", countMethods(), () -> found);
    }

    private static int countMethods() {
        int count = 0;
        for (Class<?> one : classes()) {
            count += one.getDeclaredMethods().length + one.getDeclaredConstructors().length;
        }
        return count;
    }

    public static void main(String[] args) throws IOException {
        Due due = new Due("LanguageTest");
        testClasses(due);
        testFields(due);
        testWords(due);
        testThrows(due);
        testMethods(due);
        due.end();
    }
}
