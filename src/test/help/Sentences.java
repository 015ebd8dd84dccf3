import java.io.IOException;
import java.nio.file.Files;
import java.nio.file.Path;
import java.util.LinkedHashSet;
import java.util.Set;

/**
 * What the tests of the document's single sentences share. A test begins with the sentence that
 * it is for; at the end the sentences are compared with the document, that none is left out.
 */
abstract class Sentences {
    static final int PLAIN = 0;
    static final int CONSTANT = 1;
    static final int RUNS = 2;
    static final int DICTIONARY = 3;
    static final int FRAME = 4;
    static final int DELTA = 5;
    static final int POINT = 0;
    static final int SUM = 1;
    static final int COUNT = 2;
    static final int LOWEST = Integer.MIN_VALUE;
    static final int HIGHEST = Integer.MAX_VALUE;
    static final int DESCRIPTION = 0;

    static final String NOTHING = "nothing";
    static final String ARGUMENT = "IllegalArgumentException";
    static final String STATE = "IllegalStateException";
    static final String INDEX = "IndexOutOfBoundsException";

    private static final Path DOCUMENT = Path.of("../shared/DOC.md");
    private static final int MOST_TOLD = 40;

    private static final Set<String> said = new LinkedHashSet<>();
    private static String now = "";
    private static int wrong = 0;

    interface Call {
        long on(ColumnChooser x);
    }

    interface Maker {
        ColumnChooser make();
    }

    /** Begins the test of a sentence of a promise, or of the description. */
    static void says(int promise, String sentence) {
        now = promise + " " + sentence;
        if (!said.add(now)) {
            tell("is said twice");
        }
    }

    /** Names a sentence that needs no test, for it only leads to others. */
    static void leads(int promise, String sentence) {
        said.add(promise + " " + sentence);
    }

    static void tell(String text) {
        wrong++;
        if (wrong <= MOST_TOLD) {
            System.out.println("promise " + now + "\n    " + text);
        }
    }

    static void due(String call, long got, long want) {
        if (got != want) {
            tell(call + " answered " + got + ", due is " + want);
        }
    }

    static void due(String call, String got, String want) {
        if (!got.equals(want)) {
            tell(call + " answered " + got + ", due is " + want);
        }
    }

    static void dueRatio(String call, double got, double want) {
        if (got != want) {
            tell(call + " answered " + got + ", due is " + want);
        }
    }

    static String thrownBy(ColumnChooser x, Call call) {
        try {
            call.on(x);
            return NOTHING;
        } catch (RuntimeException e) {
            return e.getClass().getSimpleName();
        }
    }

    /** The call throws just this, and leaves the object like a twin on which it was not made. */
    static void refused(Maker maker, String call, String want, Call made) {
        ColumnChooser x = maker.make();
        due(call + " throws: it", thrownBy(x, made), want);
        due("the object after the refused " + call, picture(x), picture(maker.make()));
    }

    /** The call throws nothing. */
    static void taken(Maker maker, String call, Call made) {
        due(call + " throws: it", thrownBy(maker.make(), made), NOTHING);
    }

    static ColumnChooser empty() {
        return new ColumnChooser();
    }

    /** The segments 5 5 5 9 in RUNS and 9 7 in DELTA; three queries; the price 3. */
    static ColumnChooser few() {
        ColumnChooser x = twoSegments();
        x.addQuery(POINT, 3, 0, 9);
        x.addQuery(SUM, 2, 5, 2);
        x.addQuery(COUNT, 9, 0, 100);
        x.setPrice(3);
        x.use(0, RUNS);
        x.use(1, DELTA);
        return x;
    }

    /** 96 rows in three segments, CONSTANT, DICTIONARY and FRAME; 20 queries; the price 100. */
    static ColumnChooser full() {
        ColumnChooser x = new ColumnChooser();
        x.setSegmentSize(32);
        x.append(-100000, 32);
        x.climb(-15, 1, 32);
        x.append(3, 31);
        x.append(100000, 1);
        for (int i = 0; i < 20; i++) {
            int kind = i % 3;
            x.addQuery(kind, kind == COUNT ? -100000 : i, kind == SUM ? 96 - i : 0, i == 19 ? 100 : i + 1);
        }
        x.setPrice(100);
        x.use(0, CONSTANT);
        x.use(1, DICTIONARY);
        x.use(2, FRAME);
        return x;
    }

    /** The segments 5 5 5 9 and 9 7. */
    static ColumnChooser twoSegments() {
        ColumnChooser x = new ColumnChooser();
        x.setSegmentSize(4);
        x.append(5, 3);
        x.append(9, 2);
        x.append(7, 1);
        return x;
    }

    /** Segments of four equal values, all CONSTANT. */
    static ColumnChooser constants(int segments) {
        ColumnChooser x = new ColumnChooser();
        x.setSegmentSize(4);
        x.append(7, 4 * segments);
        for (int k = 0; k < segments; k++) {
            x.use(k, CONSTANT);
        }
        return x;
    }

    /** One segment (of up to 32) with these values. */
    static ColumnChooser segmentOf(int... values) {
        ColumnChooser x = new ColumnChooser();
        x.setSegmentSize(32);
        for (int value : values) {
            x.append(value, 1);
        }
        return x;
    }

    static String valuesOf(ColumnChooser x) {
        StringBuilder text = new StringBuilder();
        int rows = x.rows();
        for (int i = 0; i < rows; i++) {
            text.append(i > 0 ? " " : "").append(x.value(i));
        }
        return text.toString();
    }

    static String encodingsOf(ColumnChooser x) {
        StringBuilder text = new StringBuilder();
        int count = x.segmentCount();
        for (int k = 0; k < count; k++) {
            text.append(x.encoding(k));
        }
        return text.toString();
    }

    static String bitsOf(ColumnChooser x, int segment) {
        return bitsOf(() -> x, segment);
    }

    /** The bits of a segment that may have more of them than an object has calls. */
    static String bitsOf(Maker maker, int segment) {
        StringBuilder text = new StringBuilder();
        ColumnChooser x = maker.make();
        int count = x.bitCount(segment);
        for (int i = 0; i < count; i++) {
            if (i % 400 == 399) {
                x = maker.make();
            }
            text.append(x.bit(segment, i));
        }
        return text.toString();
    }

    /** A number with so many bits, the highest first. */
    static String bitsOf(int number, int width) {
        StringBuilder text = new StringBuilder();
        for (int i = width - 1; i >= 0; i--) {
            text.append(number / (1 << i) % 2);
        }
        return text.toString();
    }

    static String bitsOfValue(int value) {
        return bitsOf(value + 131072, 18);
    }

    static int widthOf(int number) {
        return 32 - Integer.numberOfLeadingZeros(number);
    }

    /** All that can be seen of an object, what it keeps for later calls too. The object is used up by it. */
    static String picture(ColumnChooser x) {
        StringBuilder text = new StringBuilder();
        int count = x.segmentCount();
        text.append(x.rows()).append(' ').append(x.size()).append(' ').append(x.score()).append(' ');
        text.append(x.ratio()).append(' ').append(x.bestSegmentSize()).append(' ').append(x.digest());
        text.append(" values ").append(valuesOf(x)).append(" encodings ").append(encodingsOf(x));
        for (int q = 0; q < 20; q++) {
            int query = q;
            if (thrownBy(x, y -> y.answer(query)).equals(NOTHING)) {
                text.append(" query ").append(x.answer(q));
                for (int k = 0; k < count; k++) {
                    text.append(' ').append(x.costWith(q, k, PLAIN)).append(' ').append(x.costWith(q, k, DELTA));
                }
            }
        }
        text.append(" chosen ").append(x.choose()).append(' ').append(x.digest());
        text.append(" settings ").append(x.clearQueries()).append(' ').append(x.setPrice(0));
        text.append(' ').append(x.setSegmentSize(4)).append(' ').append(x.digest());
        return text.toString();
    }

    /** Compares what was said with the document, from one promise to another; then ends the program. */
    static void end(int from, int to) {
        now = "in all";
        try {
            compareWithDocument(from, to);
        } catch (IOException e) {
            System.out.println("no document at " + DOCUMENT + " to compare the sentences with");
        }
        System.out.println(wrong == 0 ? said.size() + " sentences hold" : wrong + " answers are not as due");
        if (wrong != 0) {
            System.exit(1);
        }
    }

    private static void compareWithDocument(int from, int to) throws IOException {
        Set<String> left = new LinkedHashSet<>(said);
        int promise = -1;
        for (String line : Files.readAllLines(DOCUMENT)) {
            if (line.startsWith("#")) {
                promise = promiseOf(line);
            } else if (promise >= from && promise <= to && !line.matches("\\s*|----.*|- `.*|`.*")) {
                for (String sentence : line.trim().split("(?<=\\.) ")) {
                    if (!said.contains(promise + " " + sentence)) {
                        tell("no test for the sentence: " + promise + " " + sentence);
                    }
                    left.remove(promise + " " + sentence);
                }
            }
        }
        for (String sentence : left) {
            tell("not in the document: " + sentence);
        }
    }

    private static int promiseOf(String heading) {
        if (heading.equals("## What it is") || heading.equals("## Description")) {
            return DESCRIPTION;
        }
        return heading.startsWith("## Promise ") ? Integer.parseInt(heading.replaceAll("## Promise |:.*", "")) : -1;
    }
}
