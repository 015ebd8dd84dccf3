/** A method for each promise of the document, with answers that were worked out by hand. */
public final class PromiseTests {
    private static final int PLAIN = 0;
    private static final int CONSTANT = 1;
    private static final int RUNS = 2;
    private static final int DICTIONARY = 3;
    private static final int FRAME = 4;
    private static final int DELTA = 5;
    private static final int POINT = 0;
    private static final int SUM = 1;
    private static final int COUNT = 2;
    private static final int LOWEST = Integer.MIN_VALUE;
    private static final int HIGHEST = Integer.MAX_VALUE;

    private static final Class<?> ARGUMENT = IllegalArgumentException.class;
    private static final Class<?> STATE = IllegalStateException.class;
    private static final Class<?> INDEX = IndexOutOfBoundsException.class;

    private static final String FIVE = "100000000000000101";
    private static final String SEVEN = "100000000000000111";
    private static final String NINE = "100000000000001001";

    private static int promise = 0;
    private static int wrong = 0;

    private interface Call {
        long go();
    }

    public static void main(String[] args) {
        p1NewObject();
        p2Append();
        p3Climb();
        p4Set();
        p5Cut();
        p6Rows();
        p7Value();
        p8SetSegmentSize();
        p9SegmentCount();
        p10AddQuery();
        p11ClearQueries();
        p12SetPrice();
        p13Answer();
        p14SizeWith();
        p15CostWith();
        p16ScoreWith();
        p17Choose();
        p18Use();
        p19Encoding();
        p20BitCount();
        p21Bit();
        p22Size();
        p23Score();
        p24BestSegmentSize();
        p25Ratio();
        p26Digest();
        System.out.println(wrong == 0 ? "all promises are kept" : wrong + " answers are not as due");
        if (wrong != 0) {
            System.exit(1);
        }
    }

    private static void tell(String text) {
        wrong++;
        System.out.println("promise " + promise + ": " + text);
    }

    private static void due(String call, long got, long want) {
        if (got != want) {
            tell(call + " answered " + got + ", due is " + want);
        }
    }

    private static void due(String call, String got, String want) {
        if (!got.equals(want)) {
            tell(call + " answered " + got + ", due is " + want);
        }
    }

    private static void dueRatio(ColumnChooser x, double want) {
        double got = x.ratio();
        if (got != want) {
            tell("ratio() answered " + got + ", due is " + want);
        }
    }

    // The call must throw just this class, and must leave what can be seen as it was.
    private static void dueThrow(ColumnChooser x, String call, Class<?> want, Call made) {
        String before = seen(x);
        Class<?> got = null;
        try {
            made.go();
        } catch (RuntimeException e) {
            got = e.getClass();
        }
        if (got != want) {
            tell(call + " threw " + got + ", due is " + want);
        }
        if (!seen(x).equals(before)) {
            tell(call + " changed the object");
        }
    }

    // The digest has all bits in it. Few calls, as an object is used for 512 of them at most.
    private static String seen(ColumnChooser x) {
        return x.digest() + " " + x.score();
    }

    private static String valuesOf(ColumnChooser x) {
        StringBuilder text = new StringBuilder();
        for (int i = 0; i < x.rows(); i++) {
            text.append(i > 0 ? " " : "").append(x.value(i));
        }
        return text.toString();
    }

    private static String encodingsOf(ColumnChooser x) {
        StringBuilder text = new StringBuilder();
        for (int k = 0; k < x.segmentCount(); k++) {
            text.append(x.encoding(k));
        }
        return text.toString();
    }

    private static String bitsOf(ColumnChooser x, int segment) {
        StringBuilder text = new StringBuilder();
        int count = x.bitCount(segment);
        for (int i = 0; i < count; i++) {
            text.append(x.bit(segment, i));
        }
        return text.toString();
    }

    /** The segments 5 5 5 9 and 9 7. */
    private static ColumnChooser twoSegments() {
        ColumnChooser x = new ColumnChooser();
        x.setSegmentSize(4);
        x.append(5, 3);
        x.append(9, 2);
        x.append(7, 1);
        return x;
    }

    /** Three segments of four equal values, all CONSTANT. */
    private static ColumnChooser threeConstants() {
        ColumnChooser x = new ColumnChooser();
        x.setSegmentSize(4);
        x.append(7, 12);
        for (int k = 0; k < 3; k++) {
            x.use(k, CONSTANT);
        }
        return x;
    }

    private static void p1NewObject() {
        promise = 1;
        ColumnChooser x = new ColumnChooser();
        due("rows()", x.rows(), 0);
        due("segmentCount()", x.segmentCount(), 0);
        due("clearQueries()", x.clearQueries(), 0);
        due("setSegmentSize(16)", x.setSegmentSize(16), 16);
        due("setPrice(1)", x.setPrice(1), 1);
        x.append(1, 3);
        due("rows() of another object", new ColumnChooser().rows(), 0);
    }

    private static void p2Append() {
        promise = 2;
        ColumnChooser x = new ColumnChooser();
        due("append(-100000, 1)", x.append(-100000, 1), 1);
        due("append(100000, 2)", x.append(100000, 2), 3);
        due("the values", valuesOf(x), "-100000 100000 100000");
        for (int value : new int[] {-100001, 100001, LOWEST, HIGHEST}) {
            dueThrow(x, "append(" + value + ", 1)", ARGUMENT, () -> x.append(value, 1));
        }
        for (int many : new int[] {0, -1, 97, LOWEST, HIGHEST}) {
            dueThrow(x, "append(1, " + many + ")", ARGUMENT, () -> x.append(1, many));
        }
        dueThrow(x, "append(1, 94)", STATE, () -> x.append(1, 94));
        due("append(1, 93)", x.append(1, 93), 96);
        dueThrow(x, "append(1, 1)", STATE, () -> x.append(1, 1));
        dueThrow(x, "append(100001, 1) when full", ARGUMENT, () -> x.append(100001, 1));
        dueThrow(x, "append(1, 97) when full", ARGUMENT, () -> x.append(1, 97));
        due("append(3, 96)", new ColumnChooser().append(3, 96), 96);

        ColumnChooser y = threeConstants();
        y.append(7, 1);
        due("encodings, the last segment was full", encodingsOf(y), "1110");
        y.use(3, CONSTANT);
        y.append(7, 5);
        due("encodings, the last segment was not full", encodingsOf(y), "11100");
    }

    private static void p3Climb() {
        promise = 3;
        ColumnChooser x = new ColumnChooser();
        due("climb(10, -3, 4)", x.climb(10, -3, 4), 4);
        due("climb(99999, 1, 2)", x.climb(99999, 1, 2), 6);
        due("climb(4, 0, 2)", x.climb(4, 0, 2), 8);
        due("climb(5, HIGHEST, 1)", x.climb(5, HIGHEST, 1), 9);
        due("climb(6, LOWEST, 1)", x.climb(6, LOWEST, 1), 10);
        due("climb(-100000, 200000, 2)", x.climb(-100000, 200000, 2), 12);
        due("the values", valuesOf(x), "10 7 4 1 99999 100000 4 4 5 6 -100000 100000");
        int[][] refused = {{99999, 1, 3}, {-99999, -1, 3}, {100001, -1, 3}, {-100001, 1, 3}, {0, 1, 0}, {0, 1, -1},
            {0, 0, 97}, {0, HIGHEST, 2}, {0, LOWEST, 2}, {0, 1 << 30, 5}, {0, 1 << 31, 3}, {LOWEST, 1, 1},
            {0, 1, LOWEST}, {0, 0, HIGHEST}, {HIGHEST, HIGHEST, HIGHEST}};
        for (int[] a : refused) {
            dueThrow(x, "climb(" + a[0] + ", " + a[1] + ", " + a[2] + ")", ARGUMENT, () -> x.climb(a[0], a[1], a[2]));
        }
        dueThrow(x, "climb(0, 1, 85)", STATE, () -> x.climb(0, 1, 85));
        due("climb(0, 1, 84)", x.climb(0, 1, 84), 96);
        dueThrow(x, "climb(0, 1, 1)", STATE, () -> x.climb(0, 1, 1));
        dueThrow(x, "climb(0, 100001, 2) when full", ARGUMENT, () -> x.climb(0, 100001, 2));

        ColumnChooser y = threeConstants();
        y.cut(2);
        y.use(2, CONSTANT);
        y.climb(7, 1, 3);
        due("encodings", encodingsOf(y), "1100");
        due("the values", valuesOf(y), "7 7 7 7 7 7 7 7 7 7 7 8 9");
    }

    private static void p4Set() {
        promise = 4;
        ColumnChooser x = threeConstants();
        due("set(4, 7)", x.set(4, 7), 7);
        due("encodings, the value is the same", encodingsOf(x), "101");
        due("set(11, -100000)", x.set(11, -100000), 7);
        due("set(11, 100000)", x.set(11, 100000), -100000);
        due("value(11)", x.value(11), 100000);
        due("encodings", encodingsOf(x), "100");
        due("bitCount(2)", x.bitCount(2), 72);
        for (int row : new int[] {-1, 12, LOWEST, HIGHEST}) {
            dueThrow(x, "set(" + row + ", 0)", INDEX, () -> x.set(row, 0));
            dueThrow(x, "set(" + row + ", 100001)", INDEX, () -> x.set(row, 100001));
        }
        for (int value : new int[] {-100001, 100001, LOWEST, HIGHEST}) {
            dueThrow(x, "set(0, " + value + ")", ARGUMENT, () -> x.set(0, value));
        }
        for (int encoding = PLAIN; encoding <= DELTA; encoding++) {
            ColumnChooser y = twoSegments();
            if (encoding != CONSTANT) {
                y.use(0, encoding);
            }
            due("set(3, 6)", y.set(3, 6), 9);
            due("the values", valuesOf(y), "5 5 5 6 9 7");
        }
    }

    private static void p5Cut() {
        promise = 5;
        ColumnChooser x = threeConstants();
        due("cut(0)", x.cut(0), 12);
        due("encodings, nothing is cut", encodingsOf(x), "111");
        due("cut(4)", x.cut(4), 8);
        due("encodings, cut at a segment's edge", encodingsOf(x), "11");
        due("cut(1)", x.cut(1), 7);
        due("encodings", encodingsOf(x), "10");
        due("bitCount(1)", x.bitCount(1), 54);
        x.append(8, 5);
        due("encodings, appended after a cut", encodingsOf(x), "100");
        due("the values", valuesOf(x), "7 7 7 7 7 7 7 8 8 8 8 8");
        for (int many : new int[] {-1, 13, LOWEST, HIGHEST}) {
            dueThrow(x, "cut(" + many + ")", ARGUMENT, () -> x.cut(many));
        }
        due("cut(12)", x.cut(12), 0);
        dueThrow(x, "cut(1) of no rows", ARGUMENT, () -> x.cut(1));
        due("cut(0) of no rows", x.cut(0), 0);
        due("cut(2) after RUNS", cutOf(RUNS), 1);
        due("cut(2) after DELTA", cutOf(DELTA), 1);
    }

    private static int cutOf(int encoding) {
        ColumnChooser x = twoSegments();
        x.use(0, encoding);
        x.cut(3);
        due("the values", valuesOf(x), "5 5 5");
        due("encodings", encodingsOf(x), "0");
        return x.cut(2);
    }

    private static void p6Rows() {
        promise = 6;
        ColumnChooser x = new ColumnChooser();
        x.append(1, 40);
        x.climb(0, 1, 56);
        due("rows()", x.rows(), 96);
        x.setSegmentSize(7);
        x.choose();
        x.cut(95);
        due("rows()", x.rows(), 1);
    }

    private static void p7Value() {
        promise = 7;
        for (int encoding = PLAIN; encoding <= DELTA; encoding++) {
            ColumnChooser x = twoSegments();
            if (encoding != CONSTANT) {
                x.use(0, encoding);
                x.use(1, encoding);
            }
            due("the values with " + encoding, valuesOf(x), "5 5 5 9 9 7");
        }
        ColumnChooser x = threeConstants();
        due("value(11) with CONSTANT", x.value(11), 7);
        for (int row : new int[] {-1, 12, 96, LOWEST, HIGHEST}) {
            dueThrow(x, "value(" + row + ")", INDEX, () -> x.value(row));
        }
        ColumnChooser none = new ColumnChooser();
        dueThrow(none, "value(0)", INDEX, () -> none.value(0));
        wideValues();
    }

    // The widest numbers that an encoding can have: 18 bits in a frame, 19 in a folded difference.
    private static void wideValues() {
        for (int encoding : new int[] {RUNS, DICTIONARY, FRAME, DELTA}) {
            ColumnChooser x = new ColumnChooser();
            x.setSegmentSize(32);
            for (int i = 0; i < 48; i++) {
                x.append(-100000, 1);
                x.append(100000, 1);
            }
            for (int k = 0; k < 3; k++) {
                x.use(k, encoding);
            }
            for (int i = 0; i < 96; i++) {
                due("value(" + i + ") with " + encoding, x.value(i), i % 2 == 0 ? -100000 : 100000);
            }
        }
    }

    private static void p8SetSegmentSize() {
        promise = 8;
        ColumnChooser x = threeConstants();
        due("setSegmentSize(4)", x.setSegmentSize(4), 4);
        due("encodings, the size is the same", encodingsOf(x), "111");
        due("setSegmentSize(5)", x.setSegmentSize(5), 4);
        due("encodings", encodingsOf(x), "000");
        due("bitCount(2)", x.bitCount(2), 36);
        due("setSegmentSize(32)", x.setSegmentSize(32), 5);
        due("segmentCount()", x.segmentCount(), 1);
        for (int size : new int[] {3, 33, 0, -4, LOWEST, HIGHEST}) {
            dueThrow(x, "setSegmentSize(" + size + ")", ARGUMENT, () -> x.setSegmentSize(size));
        }
        due("setSegmentSize(4)", x.setSegmentSize(4), 32);
        ColumnChooser y = twoSegments();
        y.choose();
        y.setSegmentSize(6);
        due("the values", valuesOf(y), "5 5 5 9 9 7");
        due("encodings", encodingsOf(y), "0");
    }

    private static void p9SegmentCount() {
        promise = 9;
        ColumnChooser x = new ColumnChooser();
        due("segmentCount()", x.segmentCount(), 0);
        x.append(1, 1);
        due("segmentCount()", x.segmentCount(), 1);
        x.append(1, 15);
        due("segmentCount()", x.segmentCount(), 1);
        x.append(1, 1);
        due("segmentCount()", x.segmentCount(), 2);
        x.append(1, 79);
        due("segmentCount()", x.segmentCount(), 6);
        x.setSegmentSize(4);
        due("segmentCount()", x.segmentCount(), 24);
        x.setSegmentSize(31);
        due("segmentCount()", x.segmentCount(), 4);
    }

    private static void p10AddQuery() {
        promise = 10;
        ColumnChooser x = new ColumnChooser();
        due("addQuery(0, 0, HIGHEST, 1)", x.addQuery(POINT, 0, HIGHEST, 1), 0);
        due("addQuery(0, 95, LOWEST, 100)", x.addQuery(POINT, 95, LOWEST, 100), 1);
        due("addQuery(1, 0, 96, 1)", x.addQuery(SUM, 0, 96, 1), 2);
        due("addQuery(1, 95, 96, 1)", x.addQuery(SUM, 95, 96, 1), 3);
        due("addQuery(1, 0, 1, 1)", x.addQuery(SUM, 0, 1, 1), 4);
        due("addQuery(2, -100000, -1, 1)", x.addQuery(COUNT, -100000, -1, 1), 5);
        due("addQuery(2, 100000, 97, 1)", x.addQuery(COUNT, 100000, 97, 1), 6);
        int[][] refused = {{-1, 0, 1, 1}, {3, 0, 1, 1}, {LOWEST, 0, 1, 1}, {HIGHEST, 0, 1, 1}, {POINT, -1, 0, 1},
            {POINT, 96, 0, 1}, {POINT, LOWEST, 0, 1}, {POINT, HIGHEST, 0, 1}, {SUM, -1, 5, 1}, {SUM, 0, 97, 1},
            {SUM, 5, 5, 1}, {SUM, 6, 5, 1}, {SUM, 96, 96, 1}, {SUM, LOWEST, HIGHEST, 1}, {SUM, 0, LOWEST, 1},
            {SUM, 0, 0, 1}, {COUNT, -100001, 0, 1}, {COUNT, 100001, 0, 1}, {COUNT, LOWEST, 0, 1}, {COUNT, HIGHEST, 0, 1},
            {POINT, 0, 0, 0}, {SUM, 0, 1, 101}, {COUNT, 0, 0, -1}, {POINT, 0, 0, HIGHEST}, {POINT, 0, 0, LOWEST}};
        refuseQueries(x, refused);
        for (int i = 7; i < 20; i++) {
            due("addQuery", x.addQuery(POINT, i, 0, 1), i);
        }
        dueThrow(x, "the 21st addQuery", STATE, () -> x.addQuery(POINT, 0, 0, 1));
        refuseQueries(x, refused);
    }

    private static void refuseQueries(ColumnChooser x, int[][] refused) {
        for (int[] a : refused) {
            dueThrow(x, "addQuery(" + a[0] + ", " + a[1] + ", " + a[2] + ", " + a[3] + ")", ARGUMENT,
                () -> x.addQuery(a[0], a[1], a[2], a[3]));
        }
    }

    private static void p11ClearQueries() {
        promise = 11;
        ColumnChooser x = twoSegments();
        due("clearQueries()", x.clearQueries(), 0);
        x.addQuery(POINT, 0, 0, 1);
        x.addQuery(SUM, 0, 6, 1);
        due("clearQueries()", x.clearQueries(), 2);
        due("clearQueries()", x.clearQueries(), 0);
        due("score()", x.score(), 108);
        dueThrow(x, "answer(0)", INDEX, () -> x.answer(0));
        due("addQuery", x.addQuery(COUNT, 9, 0, 1), 0);
        due("answer(0)", x.answer(0), 2);
    }

    private static void p12SetPrice() {
        promise = 12;
        ColumnChooser x = twoSegments();
        due("setPrice(100)", x.setPrice(100), 1);
        due("score()", x.score(), 10800);
        due("setPrice(0)", x.setPrice(0), 100);
        due("score()", x.score(), 0);
        for (int price : new int[] {-1, 101, LOWEST, HIGHEST}) {
            dueThrow(x, "setPrice(" + price + ")", ARGUMENT, () -> x.setPrice(price));
        }
        due("setPrice(7)", x.setPrice(7), 0);
    }

    private static void p13Answer() {
        promise = 13;
        for (int encoding = PLAIN; encoding <= DELTA; encoding++) {
            ColumnChooser x = twoSegments();
            x.addQuery(POINT, 5, 0, 1);
            x.addQuery(POINT, 6, 0, 1);
            x.addQuery(SUM, 2, 5, 1);
            x.addQuery(SUM, 3, 96, 1);
            x.addQuery(SUM, 6, 96, 1);
            x.addQuery(COUNT, 9, 0, 1);
            x.addQuery(COUNT, 0, 0, 1);
            if (encoding != CONSTANT) {
                x.use(0, encoding);
                x.use(1, encoding);
            }
            long[] want = {7, 0, 23, 25, 0, 2, 0};
            for (int q = 0; q < want.length; q++) {
                due("answer(" + q + ") with " + encoding, x.answer(q), want[q]);
            }
            dueThrow(x, "answer(7)", INDEX, () -> x.answer(7));
            dueThrow(x, "answer(-1)", INDEX, () -> x.answer(-1));
            dueThrow(x, "answer(LOWEST)", INDEX, () -> x.answer(LOWEST));
            dueThrow(x, "answer(HIGHEST)", INDEX, () -> x.answer(HIGHEST));
        }
        ColumnChooser y = new ColumnChooser();
        y.append(-100000, 96);
        y.addQuery(SUM, 0, 96, 1);
        y.choose();
        due("answer(0)", y.answer(0), -9600000);
        y.cut(96);
        due("answer(0) of no rows", y.answer(0), 0);
    }

    private static void dueSizes(ColumnChooser x, int segment, int... want) {
        for (int encoding = PLAIN; encoding <= DELTA; encoding++) {
            due("sizeWith(" + segment + ", " + encoding + ")", x.sizeWith(segment, encoding), want[encoding]);
        }
    }

    private static void p14SizeWith() {
        promise = 14;
        ColumnChooser x = twoSegments();
        dueSizes(x, 0, 72, -1, 48, 46, 35, 35);
        dueSizes(x, 1, 36, -1, 48, 44, 27, 25);
        x.choose();
        dueSizes(x, 0, 72, -1, 48, 46, 35, 35);
        dueSizes(threeConstants(), 2, 72, 18, 24, 24, 23, 23);
        ColumnChooser one = new ColumnChooser();
        one.append(-5, 1);
        dueSizes(one, 0, 18, 18, 24, 24, 23, 23);
        ColumnChooser wide = new ColumnChooser();
        wide.setSegmentSize(32);
        wide.climb(-100000, 6000, 31);
        wide.append(100000, 1);
        // 32 different values; the difference is 200000, and the greatest folded one 2 * 20000.
        dueSizes(wide, 0, 576, -1, 768, 6 + 576 + 160, 23 + 32 * 18, 23 + 31 * 16);
        dueNoSegment(x, "sizeWith", 2, (k, e) -> x.sizeWith(k, e));
    }

    private interface SegmentCall {
        long go(int segment, int encoding);
    }

    private static void dueNoSegment(ColumnChooser x, String name, int count, SegmentCall call) {
        for (int segment : new int[] {-1, count, LOWEST, HIGHEST}) {
            dueThrow(x, name + " of segment " + segment, INDEX, () -> call.go(segment, 0));
            dueThrow(x, name + " of segment " + segment, INDEX, () -> call.go(segment, CONSTANT));
        }
        for (int encoding : new int[] {-1, 6, LOWEST, HIGHEST}) {
            dueThrow(x, name + " with encoding " + encoding, INDEX, () -> call.go(0, encoding));
        }
    }

    private static void dueCosts(ColumnChooser x, int query, int segment, int... want) {
        for (int encoding = PLAIN; encoding <= DELTA; encoding++) {
            due("costWith(" + query + ", " + segment + ", " + encoding + ")", x.costWith(query, segment, encoding),
                want[encoding]);
        }
    }

    private static void p15CostWith() {
        promise = 15;
        ColumnChooser x = twoSegments();
        x.addQuery(POINT, 3, 0, 9);
        x.addQuery(POINT, 6, 0, 9);
        x.addQuery(SUM, 2, 5, 9);
        x.addQuery(SUM, 6, 96, 9);
        x.addQuery(SUM, 0, 4, 9);
        dueCosts(x, 0, 0, 1, -1, 3, 2, 2, 4);
        dueCosts(x, 0, 1, 0, -1, 0, 0, 0, 0);
        dueCosts(x, 1, 1, 0, -1, 0, 0, 0, 0);
        dueCosts(x, 2, 0, 2, -1, 3, 4, 3, 4);
        dueCosts(x, 2, 1, 1, -1, 2, 3, 2, 1);
        dueCosts(x, 3, 1, 0, -1, 0, 0, 0, 0);
        dueCosts(x, 4, 1, 0, -1, 0, 0, 0, 0);
        dueCosts(x, 4, 0, 4, -1, 3, 6, 5, 4);
        x.clearQueries();
        for (int value : new int[] {4, 5, 8, 9, 12, 13}) {
            x.addQuery(COUNT, value, 0, 9);
        }
        dueCosts(x, 0, 0, 4, -1, 3, 2, 1, 4);
        dueCosts(x, 1, 0, 4, -1, 3, 6, 5, 4);
        dueCosts(x, 2, 0, 4, -1, 3, 2, 5, 4);
        dueCosts(x, 3, 0, 4, -1, 3, 6, 5, 4);
        dueCosts(x, 4, 0, 4, -1, 3, 2, 5, 4);
        dueCosts(x, 5, 0, 4, -1, 3, 2, 1, 4);
        dueCosts(x, 3, 1, 2, -1, 3, 4, 3, 2);
        costsOfConstants();
        dueNoSegment(x, "costWith", 2, (k, e) -> x.costWith(0, k, e));
        for (int query : new int[] {-1, 6, LOWEST, HIGHEST}) {
            dueThrow(x, "costWith(" + query + ", 0, 0)", INDEX, () -> x.costWith(query, 0, 0));
        }
    }

    private static void costsOfConstants() {
        ColumnChooser x = threeConstants();
        x.addQuery(POINT, 6, 0, 1);
        x.addQuery(SUM, 5, 7, 1);
        x.addQuery(COUNT, 7, 0, 1);
        x.addQuery(COUNT, 8, 0, 1);
        dueCosts(x, 0, 1, 1, 1, 2, 2, 2, 3);
        dueCosts(x, 1, 1, 2, 1, 2, 3, 3, 3);
        dueCosts(x, 1, 2, 0, 0, 0, 0, 0, 0);
        dueCosts(x, 2, 1, 4, 1, 2, 5, 5, 4);
        dueCosts(x, 3, 1, 4, 1, 2, 1, 1, 4);
    }

    private static void p16ScoreWith() {
        promise = 16;
        ColumnChooser x = twoSegments();
        due("scoreWith(0, FRAME)", x.scoreWith(0, FRAME), 35);
        x.setPrice(10);
        x.addQuery(POINT, 3, 0, 7);
        x.addQuery(COUNT, 12, 0, 100);
        int[] want = {720 + 7 + 400, -1, 480 + 21 + 300, 460 + 14 + 200, 350 + 14 + 500, 350 + 28 + 400};
        for (int encoding = PLAIN; encoding <= DELTA; encoding++) {
            due("scoreWith(0, " + encoding + ")", x.scoreWith(0, encoding), want[encoding]);
        }
        due("scoreWith(1, DELTA)", x.scoreWith(1, DELTA), 250 + 200);
        due("scoreWith(1, CONSTANT)", x.scoreWith(1, CONSTANT), -1);
        x.setPrice(0);
        due("scoreWith(0, CONSTANT) with the price 0", x.scoreWith(0, CONSTANT), -1);
        due("scoreWith(1, PLAIN) with the price 0", x.scoreWith(1, PLAIN), 200);
        dueNoSegment(x, "scoreWith", 2, (k, e) -> x.scoreWith(k, e));
    }

    private static void p17Choose() {
        promise = 17;
        ColumnChooser x = twoSegments();
        due("choose()", x.choose(), 2);
        due("encodings, FRAME and DELTA of segment 0 are both 35", encodingsOf(x), "45");
        due("choose()", x.choose(), 0);
        x.addQuery(SUM, 0, 2, 100);
        due("choose()", x.choose(), 1);
        due("encodings", encodingsOf(x), "55");
        x.setPrice(0);
        x.clearQueries();
        due("choose()", x.choose(), 2);
        due("encodings, all scores are 0", encodingsOf(x), "00");
        due("choose() of no rows", new ColumnChooser().choose(), 0);
        ColumnChooser y = threeConstants();
        y.use(1, DELTA);
        due("choose()", y.choose(), 1);
        due("encodings", encodingsOf(y), "111");
        due("the values", valuesOf(y), "7 7 7 7 7 7 7 7 7 7 7 7");
        chooseEach();
    }

    // Queries and prices that make RUNS, DICTIONARY and PLAIN the best ones.
    private static void chooseEach() {
        ColumnChooser x = twoSegments();
        x.addQuery(COUNT, 8, 0, 100);
        // 0: 472 - 348 246 535 435; 1: 236 - 348 244 327 225.
        due("choose()", x.choose(), 2);
        due("encodings", encodingsOf(x), "35");
        x.clearQueries();
        x.addQuery(COUNT, 9, 0, 100);
        // 0: 472 - 348 646 535 435; 1: 236 - 348 444 327 225.
        due("choose()", x.choose(), 1);
        due("encodings", encodingsOf(x), "25");
        x.clearQueries();
        x.addQuery(POINT, 3, 0, 100);
        // 0: 172 - 348 246 235 435.
        due("choose()", x.choose(), 1);
        due("encodings", encodingsOf(x), "05");
    }

    private static void p18Use() {
        promise = 18;
        ColumnChooser x = twoSegments();
        due("use(0, RUNS)", x.use(0, RUNS), PLAIN);
        due("use(0, RUNS)", x.use(0, RUNS), RUNS);
        due("use(0, DELTA)", x.use(0, DELTA), RUNS);
        due("use(1, DICTIONARY)", x.use(1, DICTIONARY), PLAIN);
        due("encodings", encodingsOf(x), "53");
        due("the values", valuesOf(x), "5 5 5 9 9 7");
        dueThrow(x, "use(0, CONSTANT)", ARGUMENT, () -> x.use(0, CONSTANT));
        dueThrow(x, "use(1, CONSTANT)", ARGUMENT, () -> x.use(1, CONSTANT));
        dueNoSegment(x, "use", 2, (k, e) -> x.use(k, e));
        due("use(0, PLAIN)", x.use(0, PLAIN), DELTA);
        due("use(2, PLAIN)", threeConstants().use(2, PLAIN), CONSTANT);
    }

    private static void p19Encoding() {
        promise = 19;
        ColumnChooser x = twoSegments();
        due("encoding(0)", x.encoding(0), PLAIN);
        for (int encoding : new int[] {RUNS, DICTIONARY, FRAME, DELTA, PLAIN}) {
            x.use(1, encoding);
            due("encoding(1)", x.encoding(1), encoding);
        }
        dueNoSegment(x, "encoding", 2);
    }

    private static void dueNoSegment(ColumnChooser x, String name, int count) {
        for (int segment : new int[] {-1, count, 24, LOWEST, HIGHEST}) {
            dueThrow(x, name + "(" + segment + ")", INDEX,
                () -> name.equals("encoding") ? x.encoding(segment) : x.bitCount(segment));
        }
        ColumnChooser none = new ColumnChooser();
        dueThrow(none, name + "(0) of no rows", INDEX,
            () -> name.equals("encoding") ? none.encoding(0) : none.bitCount(0));
    }

    private static void p20BitCount() {
        promise = 20;
        ColumnChooser x = twoSegments();
        int[] want = {72, -1, 48, 46, 35, 35};
        for (int encoding : new int[] {PLAIN, RUNS, DICTIONARY, FRAME, DELTA}) {
            x.use(0, encoding);
            due("bitCount(0) with " + encoding, x.bitCount(0), want[encoding]);
            due("bitCount(1)", x.bitCount(1), 36);
        }
        due("bitCount(1) with CONSTANT", threeConstants().bitCount(1), 18);
        dueNoSegment(x, "bitCount", 2);
    }

    private static void p21Bit() {
        promise = 21;
        ColumnChooser x = twoSegments();
        due("bits, PLAIN", bitsOf(x, 1), NINE + SEVEN);
        x.use(0, RUNS);
        due("bits, RUNS", bitsOf(x, 0), FIVE + "000011" + NINE + "000001");
        x.use(0, DICTIONARY);
        due("bits, DICTIONARY", bitsOf(x, 0), "000010" + FIVE + NINE + "0001");
        x.use(1, DICTIONARY);
        due("bits, DICTIONARY in ascending order", bitsOf(x, 1), "000010" + SEVEN + NINE + "10");
        x.use(0, FRAME);
        due("bits, FRAME", bitsOf(x, 0), FIVE + "00011" + "000000000100");
        x.use(1, FRAME);
        due("bits, FRAME", bitsOf(x, 1), SEVEN + "00010" + "1000");
        x.use(0, DELTA);
        due("bits, DELTA", bitsOf(x, 0), FIVE + "00100" + "000000001000");
        x.use(1, DELTA);
        due("bits, DELTA that falls", bitsOf(x, 1), NINE + "00010" + "11");
        ColumnChooser y = threeConstants();
        due("bits, CONSTANT", bitsOf(y, 2), SEVEN);
        y.use(1, DICTIONARY);
        due("bits, DICTIONARY of one value", bitsOf(y, 1), "000001" + SEVEN);
        y.use(1, FRAME);
        due("bits, FRAME of one value", bitsOf(y, 1), SEVEN + "00000");
        y.use(1, DELTA);
        due("bits, DELTA of one value", bitsOf(y, 1), SEVEN + "00000");
        y.set(0, -100000);
        due("bits of -100000", bitsOf(y, 0).substring(0, 18), "000111100101100000");
        for (int index : new int[] {-1, 25, LOWEST, HIGHEST}) {
            dueThrow(x, "bit(1, " + index + ")", INDEX, () -> x.bit(1, index));
        }
        dueThrow(x, "bit(2, 0)", INDEX, () -> x.bit(2, 0));
        dueThrow(x, "bit(-1, 0)", INDEX, () -> x.bit(-1, 0));
        dueThrow(x, "bit(HIGHEST, 0)", INDEX, () -> x.bit(HIGHEST, 0));
    }

    private static void p22Size() {
        promise = 22;
        due("size() of no rows", new ColumnChooser().size(), 0);
        ColumnChooser x = twoSegments();
        due("size()", x.size(), 108);
        x.use(0, DICTIONARY);
        due("size()", x.size(), 82);
        x.choose();
        due("size()", x.size(), 60);
        x.cut(2);
        due("size()", x.size(), 35);
    }

    private static void p23Score() {
        promise = 23;
        ColumnChooser x = twoSegments();
        due("score()", x.score(), 108);
        x.setPrice(3);
        x.addQuery(COUNT, 9, 0, 10);
        x.addQuery(SUM, 2, 5, 2);
        due("score()", x.score(), 3 * 108 + 10 * 6 + 2 * 3);
        x.use(0, RUNS);
        due("score()", x.score(), 3 * 84 + 10 * (3 + 2) + 2 * (3 + 1));
        x.use(1, DELTA);
        due("score()", x.score(), 3 * 73 + 10 * (3 + 2) + 2 * (3 + 1));
        due("score() of no rows", new ColumnChooser().score(), 0);
    }

    private static void p24BestSegmentSize() {
        promise = 24;
        due("bestSegmentSize() of no rows", new ColumnChooser().bestSegmentSize(), 4);
        ColumnChooser x = threeConstants();
        String before = seen(x);
        due("bestSegmentSize(), one segment is enough from 12 on", x.bestSegmentSize(), 12);
        due("the object after bestSegmentSize()", seen(x), before);
        x.setPrice(0);
        due("bestSegmentSize(), all scores are 0", x.bestSegmentSize(), 4);
        ColumnChooser y = new ColumnChooser();
        y.append(1, 32);
        y.append(2, 32);
        y.append(3, 32);
        due("bestSegmentSize()", y.bestSegmentSize(), 32);
        // The more segments, the more a COUNT costs with CONSTANT; but segments of 5 would mix values.
        ColumnChooser z = new ColumnChooser();
        z.append(1, 10);
        z.append(2, 10);
        z.append(3, 10);
        z.addQuery(COUNT, 2, 0, 100);
        due("bestSegmentSize()", z.bestSegmentSize(), 10);
        due("encodings", encodingsOf(z), "00");
    }

    private static void p25Ratio() {
        promise = 25;
        dueRatio(new ColumnChooser(), 1.0);
        ColumnChooser x = twoSegments();
        dueRatio(x, 1.0);
        x.choose();
        dueRatio(x, 60.0 / 108.0);
        x.use(1, RUNS);
        dueRatio(x, 83.0 / 108.0);
        ColumnChooser y = new ColumnChooser();
        y.append(1, 1);
        y.use(0, RUNS);
        dueRatio(y, 24.0 / 18.0);
        y.cut(1);
        dueRatio(y, 1.0);
    }

    private static long digestOf(long... numbers) {
        long d = 109;
        for (long x : numbers) {
            d = d * 31 + x;
        }
        return d;
    }

    private static void p26Digest() {
        promise = 26;
        ColumnChooser x = new ColumnChooser();
        due("digest()", x.digest(), digestOf(0, 16, 1, 0));
        x.setPrice(9);
        x.setSegmentSize(8);
        x.addQuery(POINT, 0, 0, 1);
        due("digest()", x.digest(), digestOf(0, 8, 9, 1));
        x.append(5, 3);
        due("digest()", x.digest(), digestOf(3, 8, 9, 1, 0, 54,
            1, 0, 0, 0, 0, 0, 0, 0, 0, 0, 0, 0, 0, 0, 0, 1, 0, 1,
            1, 0, 0, 0, 0, 0, 0, 0, 0, 0, 0, 0, 0, 0, 0, 1, 0, 1,
            1, 0, 0, 0, 0, 0, 0, 0, 0, 0, 0, 0, 0, 0, 0, 1, 0, 1));
        x.use(0, RUNS);
        due("digest()", x.digest(), digestOf(3, 8, 9, 1, 2, 24,
            1, 0, 0, 0, 0, 0, 0, 0, 0, 0, 0, 0, 0, 0, 0, 1, 0, 1, 0, 0, 0, 0, 1, 1));
        x.append(5, 6);
        x.use(0, CONSTANT);
        x.use(1, FRAME);
        due("digest()", x.digest(), digestOf(9, 8, 9, 1, 1, 18,
            1, 0, 0, 0, 0, 0, 0, 0, 0, 0, 0, 0, 0, 0, 0, 1, 0, 1, 4, 23,
            1, 0, 0, 0, 0, 0, 0, 0, 0, 0, 0, 0, 0, 0, 0, 1, 0, 1, 0, 0, 0, 0, 0));
    }
}
