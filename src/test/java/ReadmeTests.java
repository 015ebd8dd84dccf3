import java.lang.reflect.Method;
import java.lang.reflect.Modifier;
import java.nio.file.Files;
import java.nio.file.Path;
import java.util.ArrayList;
import java.util.Arrays;
import java.util.List;
import java.util.TreeSet;
import java.util.regex.Matcher;
import java.util.regex.Pattern;

/** What README.md says of the class: its example's answers, and the calls in its table. */
public final class ReadmeTests {
    private static final Path README = Path.of("README.md");
    private static final Pattern CALL = Pattern.compile("x\\.(\\w+)\\(([^)]*)\\);\\s*// (-?[0-9.]*[0-9])\\b.*");
    private static int wrong = 0;

    public static void main(String[] args) throws Exception {
        String text = Files.readString(README);
        checkExample(text);
        checkTable(text);
        System.out.println(wrong == 0 ? "README.md is as due" : wrong + " faults in README.md");
        if (wrong != 0) {
            System.exit(1);
        }
    }

    private static void tell(String text) {
        wrong++;
        System.out.println(text);
    }

    private static TreeSet<String> face() {
        TreeSet<String> names = new TreeSet<>();
        for (Method m : ColumnChooser.class.getDeclaredMethods()) {
            if (Modifier.isPublic(m.getModifiers())) {
                names.add(m.getName());
            }
        }
        return names;
    }

    private static void checkExample(String text) throws Exception {
        Matcher block = Pattern.compile("(?s)```java\n(.*?)```").matcher(text);
        if (!block.find()) {
            tell("no example");
            return;
        }
        String[] lines = block.group(1).split("\n");
        if (!lines[0].equals("ColumnChooser x = new ColumnChooser();")) {
            tell("the example begins with: " + lines[0]);
        }
        ColumnChooser x = new ColumnChooser();
        for (int i = 1; i < lines.length; i++) {
            checkLine(x, lines[i]);
        }
    }

    private static void checkLine(ColumnChooser x, String line) throws Exception {
        Matcher call = CALL.matcher(line);
        if (!call.matches()) {
            tell("not a call with its answer: " + line);
            return;
        }
        List<Object> numbers = new ArrayList<>();
        for (String number : call.group(2).split(", ")) {
            if (!number.isEmpty()) {
                numbers.add(Integer.valueOf(number));
            }
        }
        Class<?>[] types = new Class<?>[numbers.size()];
        Arrays.fill(types, int.class);
        Object got = ColumnChooser.class.getMethod(call.group(1), types).invoke(x, numbers.toArray());
        if (((Number) got).doubleValue() != Double.parseDouble(call.group(3))) {
            tell("answered " + got + ": " + line);
        }
    }

    // A row of the table of calls ends with names that stand between backquotes.
    private static void checkTable(String text) {
        TreeSet<String> named = new TreeSet<>();
        Matcher row = Pattern.compile("(?m)^\\| [^|]* \\| (`\\w+`(?: `\\w+`)*) \\|$").matcher(text);
        while (row.find()) {
            for (String name : row.group(1).replace("`", "").split(" ")) {
                if (!named.add(name)) {
                    tell("named twice: " + name);
                }
            }
        }
        if (!named.equals(face())) {
            tell("the table names " + named + ", the face has " + face());
        }
    }
}
