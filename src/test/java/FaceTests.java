import java.lang.reflect.Constructor;
import java.lang.reflect.Field;
import java.lang.reflect.Method;
import java.lang.reflect.Modifier;
import java.nio.file.Files;
import java.nio.file.Path;
import java.util.Arrays;
import java.util.HashSet;
import java.util.Set;
import java.util.TreeSet;
import java.util.regex.Matcher;
import java.util.regex.Pattern;

/** The public face as the document has it, and the rules of LANGUAGE.md that can be seen. */
public final class FaceTests {
    private static final Path SOURCE = Path.of("src/main/java/ColumnChooser.java");
    private static final String[] FACE = {
        "int append(int,int) IllegalArgumentException IllegalStateException",
        "int climb(int,int,int) IllegalArgumentException IllegalStateException",
        "int set(int,int) IndexOutOfBoundsException IllegalArgumentException",
        "int cut(int) IllegalArgumentException",
        "int rows()",
        "int value(int) IndexOutOfBoundsException",
        "int setSegmentSize(int) IllegalArgumentException",
        "int segmentCount()",
        "int addQuery(int,int,int,int) IllegalArgumentException IllegalStateException",
        "int clearQueries()",
        "int setPrice(int) IllegalArgumentException",
        "long answer(int) IndexOutOfBoundsException",
        "int sizeWith(int,int) IndexOutOfBoundsException",
        "int costWith(int,int,int) IndexOutOfBoundsException",
        "int scoreWith(int,int) IndexOutOfBoundsException",
        "int choose()",
        "int use(int,int) IndexOutOfBoundsException IllegalArgumentException",
        "int encoding(int) IndexOutOfBoundsException",
        "int bitCount(int) IndexOutOfBoundsException",
        "int bit(int,int) IndexOutOfBoundsException",
        "int size()",
        "int score()",
        "int bestSegmentSize()",
        "double ratio()",
        "long digest()"};
    private static final String[] REFUSED = {"\\bcatch\\b", "\\btry\\b", "\\bfinally\\b", "->", "::", "\\bimport\\b",
        "\\bpackage\\b", "\\bsynchronized\\b", "\\bassert\\b", "\\bRandom\\b", "\\bSystem\\.(?!arraycopy)", "Exact\\(",
        "\\bnull\\b", "\\bstatic\\s*\\{", "\\bObject\\b", "[^\\x00-\\x7f]"};

    private static int wrong = 0;

    public static void main(String[] args) throws Exception {
        checkFace();
        checkMembers();
        checkClasses();
        checkSource();
        System.out.println(wrong == 0 ? "the face is as due" : wrong + " faults");
        if (wrong != 0) {
            System.exit(1);
        }
    }

    private static void due(String what, boolean fine) {
        if (!fine) {
            wrong++;
            System.out.println("not as due: " + what);
        }
    }

    private static String names(Class<?>[] types, String between) {
        StringBuilder text = new StringBuilder();
        for (Class<?> type : types) {
            text.append(text.length() > 0 ? between : "").append(type.getSimpleName());
        }
        return text.toString();
    }

    private static void checkFace() {
        Class<?> c = ColumnChooser.class;
        due("a public final class", c.getModifiers() == (Modifier.PUBLIC | Modifier.FINAL));
        due("one constructor", c.getDeclaredConstructors().length == 1);
        Constructor<?> made = c.getDeclaredConstructors()[0];
        due("a public constructor without parameters", made.getModifiers() == Modifier.PUBLIC
            && made.getParameterCount() == 0 && made.getExceptionTypes().length == 0);
        Set<String> got = new TreeSet<>();
        for (Method m : c.getDeclaredMethods()) {
            if (Modifier.isPublic(m.getModifiers())) {
                due(m + " is public alone", m.getModifiers() == Modifier.PUBLIC);
                got.add((m.getReturnType() + " " + m.getName() + "(" + names(m.getParameterTypes(), ",") + ") "
                    + names(m.getExceptionTypes(), " ")).trim());
            }
        }
        due("the methods " + got, got.equals(new TreeSet<>(Arrays.asList(FACE))));
    }

    private static void checkMembers() {
        Set<String> open = new HashSet<>();
        for (Method m : ColumnChooser.class.getDeclaredMethods()) {
            if (Modifier.isPublic(m.getModifiers())) {
                open.add(m.getName());
            }
        }
        for (Method m : ColumnChooser.class.getDeclaredMethods()) {
            if (!Modifier.isPublic(m.getModifiers())) {
                due(m + " is private", Modifier.isPrivate(m.getModifiers()));
                due(m + " has a name of its own", !open.contains(m.getName()));
            }
        }
        for (Class<?> inside : ColumnChooser.class.getDeclaredClasses()) {
            for (Method m : inside.getDeclaredMethods()) {
                due(m + " has a name of its own", !open.contains(m.getName()));
            }
        }
    }

    private static void checkClasses() {
        Class<?>[] inside = ColumnChooser.class.getDeclaredClasses();
        due("at most twelve classes", inside.length < 12);
        for (Class<?> c : inside) {
            due(c + " is static, and private or package-visible", Modifier.isStatic(c.getModifiers())
                && !Modifier.isPublic(c.getModifiers()) && !Modifier.isProtected(c.getModifiers()));
            checkFields(c);
        }
        checkFields(ColumnChooser.class);
    }

    private static void checkFields(Class<?> c) {
        int count = 0;
        for (Field f : c.getDeclaredFields()) {
            due(f + " is private", Modifier.isPrivate(f.getModifiers()));
            if (Modifier.isStatic(f.getModifiers())) {
                due(f + " is final and a number", Modifier.isFinal(f.getModifiers()) && f.getType().isPrimitive());
            } else {
                count++;
            }
        }
        due(c + " has some twenty fields", count <= 20);
        for (Method m : c.getDeclaredMethods()) {
            due(m + " has at most seven parameters", m.getParameterCount() <= 7);
        }
    }

    private static void checkSource() throws Exception {
        String code = Files.readString(SOURCE).replaceAll("(?s)/\\*.*?\\*/", "").replaceAll("//[^\n]*", "")
            .replaceAll("\"[^\"\n]*\"", "\"\"");
        for (String refused : REFUSED) {
            Matcher found = Pattern.compile(refused).matcher(code);
            due("nothing like " + refused, !found.find());
        }
        Matcher made = Pattern.compile("throw (?!new (IllegalStateException|IllegalArgumentException"
            + "|IndexOutOfBoundsException)\\()").matcher(code);
        due("only the document's exceptions are thrown", !made.find());
        int length = 0;
        for (String line : code.split("\n")) {
            length = line.matches(" {4}( {4})?[a-z].*\\) .*\\{|.*class .*") ? 0 : length + 1;
            due("a method of at most sixty lines, at: " + line, length <= 60);
        }
    }
}
