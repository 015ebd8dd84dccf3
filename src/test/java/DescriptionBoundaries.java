/** A test for each sentence of the document's description, at the boundaries that it names. */
public final class DescriptionBoundaries extends Sentences {
    private static final int[] EDGE_VALUES = {-100000, -1, 0, 1, 100000};

    public static void main(String[] args) {
        leadingSentences();
        useOfAnObject();
        rowsOfTheColumn();
        segmentsOfTheColumn();
        indicesInASegment();
        bitsOfValues();
        widths();
        runs();
        plain();
        constant();
        runsEncoding();
        dictionary();
        frame();
        delta();
        sizes();
        whenPlain();
        trace();
        pointAnswers();
        sumAnswers();
        countAnswers();
        costOfNoRows();
        firstAndLastIndex();
        pointCosts();
        sumCosts();
        countCosts();
        scores();
        price();
        nothingChanges();
        namedFirst();
        end(DESCRIPTION, DESCRIPTION);
    }

    private static void leadingSentences() {
        leads(0, "A chooser of encodings for a column of integers.");
        leads(0, "The column is cut into segments; for each segment the encoding is chosen that is best for its size"
            + " and for the queries of a trace.");
        leads(0, "Segments are kept as bits, and queries are answered from them.");
        leads(0, "Column.");
        leads(0, "Encodings.");
        leads(0, "The encodings of a segment and their bits:");
        leads(0, "Queries.");
        leads(0, "The constructor and the methods follow, a promise each: the signature, then what it does.");
    }

    private static void useOfAnObject() {
        says(0, "An object is used for at most 512 calls after it has been made; what later calls answer is free.");
        ColumnChooser x = new ColumnChooser();
        x.append(1, 96);
        for (int i = 0; i < 510; i++) {
            due("the call " + (i + 2), x.set(i % 96, i), i < 96 ? 1 : i - 96);
        }
        due("the 512th call", x.value(509 % 96), 509);
    }

    private static void rowsOfTheColumn() {
        says(0, "A column has at most 96 values, from -100000 to 100000, in rows that are numbered from 0.");
        ColumnChooser x = new ColumnChooser();
        for (int i = 0; i < 96; i++) {
            due("append", x.append(EDGE_VALUES[i % 5], 1), i + 1);
        }
        for (int i = 0; i < 96; i++) {
            due("value(" + i + ")", x.value(i), EDGE_VALUES[i % 5]);
        }
        due("append to 96 rows throws: it", thrownBy(x, y -> y.append(0, 1)), STATE);
        due("climb after 96 rows throws: it", thrownBy(x, y -> y.climb(0, 0, 1)), STATE);
        due("value(96) throws: it", thrownBy(x, y -> y.value(96)), INDEX);
        due("rows()", x.rows(), 96);
        for (int value : new int[] {-100001, 100001}) {
            refused(Sentences::few, "append of " + value, ARGUMENT, y -> y.append(value, 1));
            refused(Sentences::few, "climb from " + value, ARGUMENT, y -> y.climb(value, 0, 1));
            refused(Sentences::few, "climb to " + value, ARGUMENT, y -> y.climb(0, value, 2));
            refused(Sentences::few, "set to " + value, ARGUMENT, y -> y.set(0, value));
        }
    }

    private static void segmentsOfTheColumn() {
        says(0, "The segment size S is 4 to 32 (16 at first); segment k has the rows k * S to k * S + S - 1, as far as"
            + " there are such; segments are numbered from 0.");
        due("the segment size at first", new ColumnChooser().setSegmentSize(4), 16);
        ColumnChooser first = new ColumnChooser();
        first.append(1, 17);
        due("bitCount(0) at first", first.bitCount(0), 16 * 18);
        due("bitCount(1) at first", first.bitCount(1), 18);
        for (int size = 4; size <= 32; size++) {
            for (int rows : new int[] {1, size - 1, size, size + 1, 2 * size, 95, 96}) {
                if (rows <= 96) {
                    rowsOfEachSegment(size, rows);
                }
            }
        }
    }

    private static void rowsOfEachSegment(int size, int rows) {
        String of = " with " + rows + " rows in segments of " + size;
        int segment = 0;
        for (int from = 0; from < rows; from += size) {
            int many = rows - from < size ? rows - from : size;
            ColumnChooser x = climbed(size, rows);
            due("bitCount(" + segment + ")" + of, x.bitCount(segment), 18 * many);
            x.use(segment, FRAME);
            StringBuilder want = new StringBuilder(bitsOfValue(1000 + from) + bitsOf(widthOf(many - 1), 5));
            for (int i = 0; i < many; i++) {
                want.append(bitsOf(i, widthOf(many - 1)));
            }
            due("the bits of segment " + segment + of, bitsOf(x, segment), want.toString());
            segment++;
        }
        int none = segment;
        ColumnChooser x = climbed(size, rows);
        due("segmentCount()" + of, x.segmentCount(), none);
        due("bitCount(" + none + ")" + of + " throws: it", thrownBy(x, y -> y.bitCount(none)), INDEX);
        due("bitCount(-1)" + of + " throws: it", thrownBy(x, y -> y.bitCount(-1)), INDEX);
    }

    private static ColumnChooser climbed(int size, int rows) {
        ColumnChooser x = new ColumnChooser();
        x.setSegmentSize(size);
        x.climb(1000, 1, rows);
        return x;
    }

    private static void indicesInASegment() {
        says(0, "Within a segment, its values have the indices 0 to m - 1, where m is their number.");
        for (int size : new int[] {4, 5, 31, 32}) {
            ColumnChooser x = new ColumnChooser();
            x.setSegmentSize(size);
            x.climb(0, 1, 2 * size + 1);
            for (int row : new int[] {0, size - 1, size, 2 * size - 1, 2 * size}) {
                int query = x.addQuery(POINT, row, 0, 1);
                due("the index of row " + row + ", plus 1", x.costWith(query, row / size, DELTA), row % size + 1);
            }
        }
    }

    private static void bitsOfValues() {
        says(0, "A value is written with 18 bits, as the value plus 131072; numbers are written with the highest bit"
            + " first.");
        String[] want = {"000111100101100000", "011111111111111111", "100000000000000000", "100000000000000001",
            "111000011010100000"};
        for (int i = 0; i < 5; i++) {
            ColumnChooser x = segmentOf(EDGE_VALUES[i]);
            due("the bits of " + EDGE_VALUES[i], bitsOf(x, 0), want[i]);
            x.use(0, CONSTANT);
            due("the bits of " + EDGE_VALUES[i], bitsOf(x, 0), want[i]);
            x.use(0, RUNS);
            due("the bits of " + EDGE_VALUES[i] + " and 1", bitsOf(x, 0), want[i] + "000001");
            x.use(0, DICTIONARY);
            due("the bits of 1 and " + EDGE_VALUES[i], bitsOf(x, 0), "000001" + want[i]);
            x.use(0, FRAME);
            due("the bits of " + EDGE_VALUES[i] + " and 0", bitsOf(x, 0), want[i] + "00000");
            x.use(0, DELTA);
            due("the bits of " + EDGE_VALUES[i] + " and 0", bitsOf(x, 0), want[i] + "00000");
        }
    }

    private static void widths() {
        says(0, "The width of a number that is not negative is the smallest number w such that it is less than 2^w"
            + " (0 for 0).");
        due("the width of 0", segmentOf(-9, -9).sizeWith(0, FRAME), 23);
        for (int w = 1; w <= 18; w++) {
            int least = 1 << (w - 1);
            int greatest = w == 18 ? 200000 : 2 * least - 1;
            due("two times the width of " + least, segmentOf(-100000, least - 100000).sizeWith(0, FRAME) - 23, 2 * w);
            due("two times the width of " + greatest, segmentOf(greatest - 100000, -100000).sizeWith(0, FRAME) - 23,
                2 * w);
        }
        // Folded, 2^(w - 2) is the least number of the width w, and -2^(w - 2) the greatest of the width w - 1.
        for (int w = 2; w <= 19; w++) {
            int x = 1 << (w - 2);
            due("the width of " + 2 * x, segmentOf(-100000, x - 100000).sizeWith(0, DELTA) - 23, w);
            due("the width of " + (2 * x - 1), segmentOf(x - 100000, -100000).sizeWith(0, DELTA) - 23, w - 1);
        }
        int[] steps = {1, 2, 4, 8, 16, 32};
        for (int d = 1; d <= 32; d++) {
            ColumnChooser x = new ColumnChooser();
            x.setSegmentSize(32);
            x.climb(-5, 3, d);
            int width = 0;
            while (d > steps[width]) {
                width++;
            }
            due(d + " times the width of " + (d - 1), x.sizeWith(0, DICTIONARY) - 6 - 18 * d, d * width);
        }
    }

    private static void runs() {
        says(0, "A run is a longest sequence of equal values that follow each other in the segment.");
        due("RUNS of one value", segmentOf(5).sizeWith(0, RUNS), 24);
        due("RUNS of 5 5 9 5 5", segmentOf(5, 5, 9, 5, 5).sizeWith(0, RUNS), 3 * 24);
        due("RUNS of 9 5 5 9", segmentOf(9, 5, 5, 9).sizeWith(0, RUNS), 3 * 24);
        due("RUNS of 5 9 5 9", segmentOf(5, 9, 5, 9).sizeWith(0, RUNS), 4 * 24);
        due("RUNS of 0 0 1", segmentOf(0, 0, 1).sizeWith(0, RUNS), 2 * 24);
        due("RUNS of 1 0 0", segmentOf(1, 0, 0).sizeWith(0, RUNS), 2 * 24);
        ColumnChooser x = new ColumnChooser();
        x.setSegmentSize(4);
        x.append(1, 2);
        x.append(5, 9);
        x.append(1, 1);
        String[] want = {bitsOfValue(1) + "000010" + bitsOfValue(5) + "000010", bitsOfValue(5) + "000100",
            bitsOfValue(5) + "000011" + bitsOfValue(1) + "000001"};
        for (int k = 0; k < 3; k++) {
            x.use(k, RUNS);
            due("the bits of segment " + k + ", with a run over the segments' edges", bitsOf(x, k), want[k]);
        }
    }

    private static void plain() {
        says(0, "0 PLAIN: each value.");
        due("the bits of one value", bitsOf(segmentOf(-100000), 0), bitsOfValue(-100000));
        int[] values = new int[32];
        StringBuilder want = new StringBuilder();
        for (int i = 0; i < 32; i++) {
            values[i] = EDGE_VALUES[i % 5];
            want.append(bitsOfValue(values[i]));
        }
        due("the bits of 32 values", bitsOf(() -> segmentOf(values), 0), want.toString());
    }

    private static void constant() {
        says(0, "1 CONSTANT, if all values are equal: this value.");
        due("CONSTANT of one value", segmentOf(-3).sizeWith(0, CONSTANT), 18);
        ColumnChooser x = new ColumnChooser();
        x.setSegmentSize(32);
        x.append(-3, 32);
        x.use(0, CONSTANT);
        due("the bits of 32 equal values", bitsOf(x, 0), bitsOfValue(-3));
        for (int row = 0; row < 32; row++) {
            ColumnChooser y = new ColumnChooser();
            y.setSegmentSize(32);
            y.append(-3, 32);
            y.set(row, -4);
            due("CONSTANT, but row " + row + " differs", y.sizeWith(0, CONSTANT), -1);
            due("use of CONSTANT, but row " + row + " differs, throws: it", thrownBy(y, z -> z.use(0, CONSTANT)),
                ARGUMENT);
        }
        ColumnChooser z = new ColumnChooser();
        z.setSegmentSize(4);
        z.append(1, 4);
        z.append(2, 4);
        z.append(1, 4);
        due("CONSTANT, and the segments beside it differ", z.use(1, CONSTANT), PLAIN);
        due("the bits", bitsOf(z, 1), bitsOfValue(2));
    }

    private static void runsEncoding() {
        says(0, "2 RUNS: for each run, in order, its value and its length (with 6 bits).");
        for (int length = 1; length <= 32; length++) {
            ColumnChooser x = new ColumnChooser();
            x.setSegmentSize(32);
            x.append(-1, length);
            x.use(0, RUNS);
            due("the bits of a run of " + length, bitsOf(x, 0), bitsOfValue(-1) + bitsOf(length, 6));
        }
        ColumnChooser y = new ColumnChooser();
        y.setSegmentSize(32);
        y.climb(50, -7, 32);
        y.use(0, RUNS);
        due("bitCount(0) of 32 runs", y.bitCount(0), 32 * 24);
        for (int i = 0; i < 32; i++) {
            due("value(" + i + ") of 32 runs", y.value(i), 50 - 7 * i);
        }
        for (int i = 31 * 24; i < 32 * 24; i++) {
            due("bit " + i, y.bit(0, i), (bitsOfValue(50 - 7 * 31) + "000001").charAt(i - 31 * 24) - '0');
        }
    }

    private static void dictionary() {
        says(0, "3 DICTIONARY: the number d of different values (with 6 bits), these in ascending order, and then for"
            + " each value its index in this list, with as many bits as the width of d - 1.");
        ColumnChooser one = segmentOf(4, 4, 4);
        one.use(0, DICTIONARY);
        due("the bits of one value, three times", bitsOf(one, 0), "000001" + bitsOfValue(4));
        ColumnChooser two = segmentOf(4, -4, 4);
        two.use(0, DICTIONARY);
        due("the bits of 4 -4 4", bitsOf(two, 0), "000010" + bitsOfValue(-4) + bitsOfValue(4) + "101");
        ColumnChooser five = segmentOf(0, 100000, -1, -100000, 1, 0, -100000, 100000);
        five.use(0, DICTIONARY);
        due("the bits of the edge values", bitsOf(five, 0), "000101" + bitsOfValue(-100000) + bitsOfValue(-1)
            + bitsOfValue(0) + bitsOfValue(1) + bitsOfValue(100000) + "010" + "100" + "001" + "000" + "011" + "010"
            + "000" + "100");
        Maker all = () -> {
            ColumnChooser x = new ColumnChooser();
            x.setSegmentSize(32);
            x.climb(93, -6, 32);
            x.use(0, DICTIONARY);
            return x;
        };
        StringBuilder want = new StringBuilder("100000");
        for (int i = 31; i >= 0; i--) {
            want.append(bitsOfValue(93 - 6 * i));
        }
        for (int i = 31; i >= 0; i--) {
            want.append(bitsOf(i, 5));
        }
        due("the bits of 32 different values that fall", bitsOf(all, 0), want.toString());
    }

    private static void frame() {
        says(0, "4 FRAME: the least value, the width w of the greatest minus the least value (with 5 bits), and then"
            + " for each value the difference to the least one, with w bits.");
        dueFrame("00000", 3, 3, 3, 3);
        dueFrame("00000", 3, 3);
        dueFrame("00001", -1, 0, -1);
        dueFrame("00010", -1, 1, -1, 0);
        dueFrame("00010", -1, 2, -1, 0);
        dueFrame("00011", -1, 3, -1, 0);
        dueFrame("10001", -100000, 31071, -100000, 0);
        dueFrame("10010", -100000, 31072, -100000, 0);
        dueFrame("10010", -100000, -100000, 100000, 0, 99999);
        dueFrame("10010", -100000, 100000, -100000);
    }

    private static void dueFrame(String width, int least, int... values) {
        ColumnChooser x = segmentOf(values);
        x.use(0, FRAME);
        StringBuilder want = new StringBuilder(bitsOfValue(least) + width);
        for (int value : values) {
            want.append(bitsOf(value - least, Integer.parseInt(width, 2)));
        }
        due("the bits of " + valuesOf(x), bitsOf(x, 0), want.toString());
    }

    private static void delta() {
        says(0, "5 DELTA: the first value, a width w (with 5 bits), and then, for each value but the first one, the"
            + " folded difference to the value before, with w bits: folded, a difference x that is not negative is"
            + " 2 * x, and a negative one is -2 * x - 1; w is the width of the greatest folded difference (0 if there"
            + " is none).");
        dueDelta("00000", "", 8);
        dueDelta("00000", "", 8, 8, 8);
        dueDelta("00001", "1", 8, 7);
        dueDelta("00010", "10", 8, 9);
        dueDelta("00010", "01" + "00" + "10" + "11", 8, 7, 7, 8, 6);
        dueDelta("00011", "000" + "100", 8, 8, 10);
        dueDelta("00011", "101" + "000", 8, 5, 5);
        dueDelta("10010", "111111111111111111", 100000, -31072);
        dueDelta("10010", "111111111111111110", -100000, 31071);
        dueDelta("10011", "1000000000000000000", -100000, 31072);
        dueDelta("10011", "1000000000000000001", 100000, -31073);
        dueDelta("10011", "1100001101010000000" + "1100001101001111111" + "0000000000000000000",
            -100000, 100000, -100000, -100000);
    }

    private static void dueDelta(String width, String differences, int... values) {
        ColumnChooser x = segmentOf(values);
        x.use(0, DELTA);
        due("the bits of " + valuesOf(x), bitsOf(x, 0), bitsOfValue(values[0]) + width + differences);
        for (int i = 0; i < values.length; i++) {
            due("value(" + i + ")", x.value(i), values[i]);
        }
    }

    private static void sizes() {
        says(0, "The size of an encoding is the number of its bits.");
        int[][] columns = {{5}, {5, 5}, {5, 6}, {-100000, 100000}, {100000, -100000, 100000},
            {1, 2, 3, 4, 5, 6, 7, 8, 9, 10, 11, 12, 13, 14, 15, 16, 17, 18, 19, 20, 21, 22, 23, 24, 25, 26, 27, 28, 29,
                30, 31, 32}};
        for (int[] values : columns) {
            for (int encoding = PLAIN; encoding <= DELTA; encoding++) {
                ColumnChooser x = segmentOf(values);
                int size = x.sizeWith(0, encoding);
                if (size >= 0) {
                    x.use(0, encoding);
                    due("bitCount(0) with " + encoding, x.bitCount(0), size);
                    int last = size - 1;
                    due("the last bit throws: it", thrownBy(x, y -> y.bit(0, last)), NOTHING);
                    due("the bit behind the last throws: it", thrownBy(x, y -> y.bit(0, last + 1)), INDEX);
                }
            }
        }
    }

    private static void whenPlain() {
        says(0, "At first, and whenever a value of it is changed, appended or removed, a segment is PLAIN; if the"
            + " segment size is set to another number, all segments are PLAIN.");
        ColumnChooser first = new ColumnChooser();
        first.append(1, 96);
        due("the encodings at first", encodingsOf(first), "000000");
        duePlain("set(3, 7)", "01111", x -> x.set(3, 7));
        duePlain("set(4, 7)", "10111", x -> x.set(4, 7));
        duePlain("set(19, 8)", "11110", x -> x.set(19, 8));
        duePlain("append(7, 1)", "111110", x -> x.append(7, 1));
        duePlain("append(7, 4)", "111110", x -> x.append(7, 4));
        duePlain("append(7, 5)", "1111100", x -> x.append(7, 5));
        duePlain("climb(7, 0, 1)", "111110", x -> x.climb(7, 0, 1));
        duePlain("cut(0)", "11111", x -> x.cut(0));
        duePlain("cut(1)", "11110", x -> x.cut(1));
        duePlain("cut(3)", "11110", x -> x.cut(3));
        duePlain("cut(4)", "1111", x -> x.cut(4));
        duePlain("cut(5)", "1110", x -> x.cut(5));
        duePlain("cut(20)", "", x -> x.cut(20));
        duePlain("cut(4) and append(7, 4)", "11110", x -> x.cut(4) + x.append(7, 4));
        duePlain("cut(20) and append(7, 20)", "00000", x -> x.cut(20) + x.append(7, 20));
        duePlain("append to a segment that is not full", "1111100", x -> x.append(7, 2) + x.use(5, 1) + x.append(7, 3));
        duePlain("climb to a segment that is not full", "111110", x -> x.append(7, 3) + x.use(5, 1) + x.climb(7, 1, 1));
        duePlain("cut in a segment that is not full", "111110", x -> x.append(7, 3) + x.use(5, 1) + x.cut(1));
        duePlain("setSegmentSize(4), which it is", "11111", x -> x.setSegmentSize(4));
        duePlain("setSegmentSize(5)", "0000", x -> x.setSegmentSize(5));
        duePlain("setSegmentSize(32)", "0", x -> x.setSegmentSize(32));
        duePlain("setSegmentSize(32) and back", "00000", x -> x.setSegmentSize(32) + x.setSegmentSize(4));
        duePlain("setPrice, addQuery, clearQueries", "11111",
            x -> x.setPrice(0) + x.addQuery(COUNT, 7, 0, 1) + x.clearQueries());
    }

    private static void duePlain(String call, String want, Call made) {
        ColumnChooser x = constants(5);
        made.on(x);
        due("the encodings after " + call, encodingsOf(x), want);
    }

    private static void trace() {
        says(0, "A trace has at most 20 queries, numbered from 0, each with a weight from 1 to 100:");
        ColumnChooser x = new ColumnChooser();
        x.append(5, 1);
        for (int i = 0; i < 20; i++) {
            due("the number of a query", x.addQuery(POINT, i % 2, 0, i % 2 == 0 ? 1 : 100), i);
        }
        due("the 21st query throws: it", thrownBy(x, y -> y.addQuery(POINT, 0, 0, 1)), STATE);
        for (int i = 0; i < 20; i++) {
            due("answer(" + i + ")", x.answer(i), i % 2 == 0 ? 5 : 0);
        }
        due("answer(20) throws: it", thrownBy(x, y -> y.answer(20)), INDEX);
        due("score()", x.score(), 18 + 10);
        x.append(6, 1);
        due("score()", x.score(), 36 + 10 + 1000);
        refused(Sentences::few, "addQuery with the weight 0", ARGUMENT, y -> y.addQuery(POINT, 0, 0, 0));
        refused(Sentences::few, "addQuery with the weight 101", ARGUMENT, y -> y.addQuery(POINT, 0, 0, 101));
    }

    private static void dueAnswer(ColumnChooser x, int kind, int a, int b, long want) {
        int query = x.addQuery(kind, a, b, 1);
        due("answer of the query " + kind + " " + a + " " + b, x.answer(query), want);
    }

    private static void pointAnswers() {
        says(0, "kind 0, POINT a: the value in row a; 0 if there is no such row.");
        dueAnswer(new ColumnChooser(), POINT, 0, 0, 0);
        ColumnChooser x = few();
        dueAnswer(x, POINT, 0, 0, 5);
        dueAnswer(x, POINT, 3, 0, 9);
        dueAnswer(x, POINT, 4, 0, 9);
        dueAnswer(x, POINT, 5, 0, 7);
        dueAnswer(x, POINT, 6, 0, 0);
        dueAnswer(x, POINT, 7, 0, 0);
        dueAnswer(x, POINT, 95, 0, 0);
        x.append(-100000, 90);
        dueAnswer(x, POINT, 95, 0, -100000);
        int last = x.addQuery(POINT, 95, 0, 1);
        x.cut(1);
        due("answer when its row was cut", x.answer(last), 0);
    }

    private static void sumAnswers() {
        says(0, "kind 1, SUM a b: the sum of the values in the rows from a to b, b not included, as far as there are"
            + " such.");
        dueAnswer(new ColumnChooser(), SUM, 0, 96, 0);
        ColumnChooser x = few();
        dueAnswer(x, SUM, 0, 1, 5);
        dueAnswer(x, SUM, 3, 4, 9);
        dueAnswer(x, SUM, 3, 5, 18);
        dueAnswer(x, SUM, 4, 6, 16);
        dueAnswer(x, SUM, 5, 6, 7);
        dueAnswer(x, SUM, 5, 7, 7);
        dueAnswer(x, SUM, 5, 96, 7);
        dueAnswer(x, SUM, 6, 96, 0);
        dueAnswer(x, SUM, 95, 96, 0);
        dueAnswer(x, SUM, 0, 96, 40);
        for (int value : new int[] {-100000, 100000}) {
            ColumnChooser y = new ColumnChooser();
            y.append(value, 96);
            dueAnswer(y, SUM, 0, 96, 96L * value);
            dueAnswer(y, SUM, 0, 95, 95L * value);
            dueAnswer(y, SUM, 95, 96, value);
        }
    }

    private static void countAnswers() {
        says(0, "kind 2, COUNT a: the number of rows with the value a.");
        dueAnswer(new ColumnChooser(), COUNT, 0, 0, 0);
        ColumnChooser x = few();
        dueAnswer(x, COUNT, 5, 0, 3);
        dueAnswer(x, COUNT, 9, 0, 2);
        dueAnswer(x, COUNT, 7, 0, 1);
        dueAnswer(x, COUNT, 6, 0, 0);
        dueAnswer(x, COUNT, 0, 0, 0);
        ColumnChooser y = full();
        y.clearQueries();
        dueAnswer(y, COUNT, -100000, 0, 32);
        dueAnswer(y, COUNT, 100000, 0, 1);
        dueAnswer(y, COUNT, 3, 0, 32);
        dueAnswer(y, COUNT, 0, 0, 1);
        ColumnChooser z = new ColumnChooser();
        z.append(0, 96);
        dueAnswer(z, COUNT, 0, 0, 96);
    }

    private static void dueCosts(ColumnChooser x, int segment, int kind, int a, int b, int... want) {
        int query = x.addQuery(kind, a, b, 1);
        for (int encoding = PLAIN; encoding <= DELTA; encoding++) {
            due("the cost of the query " + kind + " " + a + " " + b + " in segment " + segment + " with " + encoding,
                x.costWith(query, segment, encoding), want[encoding]);
        }
    }

    /** The segments 3 3 3 3 twice and 3 3. */
    private static ColumnChooser threes() {
        ColumnChooser x = new ColumnChooser();
        x.setSegmentSize(4);
        x.append(3, 10);
        return x;
    }

    private static void costOfNoRows() {
        says(0, "The cost of a query in a segment, with some encoding, is 0 for a POINT whose row is not in it, and for"
            + " a SUM that has no row in it.");
        int[] none = {0, 0, 0, 0, 0, 0};
        ColumnChooser x = threes();
        dueCosts(x, 1, POINT, 3, 0, none);
        dueCosts(x, 1, POINT, 8, 0, none);
        dueCosts(x, 2, POINT, 10, 0, none);
        dueCosts(x, 2, POINT, 11, 0, none);
        dueCosts(x, 0, POINT, 95, 0, none);
        dueCosts(x, 2, POINT, 0, 0, none);
        dueCosts(x, 1, SUM, 0, 4, none);
        dueCosts(x, 1, SUM, 3, 4, none);
        dueCosts(x, 1, SUM, 8, 96, none);
        dueCosts(x, 1, SUM, 8, 9, none);
        dueCosts(x, 2, SUM, 10, 11, none);
        dueCosts(x, 2, SUM, 10, 96, none);
        dueCosts(x, 0, SUM, 95, 96, none);
        dueCosts(x, 2, SUM, 0, 8, none);
    }

    private static void firstAndLastIndex() {
        says(0, "Otherwise, with the index j of the row of a POINT, and the first index f and last index l of the rows"
            + " of a SUM:");
        ColumnChooser x = threes();
        // PLAIN has l - f + 1, DELTA l + 1, DICTIONARY of one value l - f + 2.
        dueCosts(x, 1, SUM, 0, 96, 4, 1, 2, 5, 5, 4);
        dueCosts(x, 1, SUM, 3, 5, 1, 1, 2, 2, 2, 1);
        dueCosts(x, 1, SUM, 4, 5, 1, 1, 2, 2, 2, 1);
        dueCosts(x, 1, SUM, 7, 8, 1, 1, 2, 2, 2, 4);
        dueCosts(x, 1, SUM, 7, 9, 1, 1, 2, 2, 2, 4);
        dueCosts(x, 1, SUM, 5, 7, 2, 1, 2, 3, 3, 3);
        dueCosts(x, 2, SUM, 0, 96, 2, 1, 2, 3, 3, 2);
        dueCosts(x, 2, SUM, 9, 10, 1, 1, 2, 2, 2, 2);
        dueCosts(x, 2, SUM, 9, 11, 1, 1, 2, 2, 2, 2);
        dueCosts(x, 2, POINT, 8, 0, 1, 1, 2, 2, 2, 1);
        dueCosts(x, 2, POINT, 9, 0, 1, 1, 2, 2, 2, 2);
        dueCosts(x, 1, POINT, 4, 0, 1, 1, 2, 2, 2, 1);
        dueCosts(x, 1, POINT, 7, 0, 1, 1, 2, 2, 2, 4);
    }

    private static void pointCosts() {
        says(0, "POINT: PLAIN and CONSTANT 1; RUNS 1 plus the number of runs that begin at or before j; DICTIONARY and"
            + " FRAME 2; DELTA j + 1.");
        ColumnChooser x = segmentOf(5, 5, 9, 5, 5);
        dueCosts(x, 0, POINT, 0, 0, 1, -1, 2, 2, 2, 1);
        dueCosts(x, 0, POINT, 1, 0, 1, -1, 2, 2, 2, 2);
        dueCosts(x, 0, POINT, 2, 0, 1, -1, 3, 2, 2, 3);
        dueCosts(x, 0, POINT, 3, 0, 1, -1, 4, 2, 2, 4);
        dueCosts(x, 0, POINT, 4, 0, 1, -1, 4, 2, 2, 5);
        dueCosts(segmentOf(8), 0, POINT, 0, 0, 1, 1, 2, 2, 2, 1);
        ColumnChooser y = new ColumnChooser();
        y.setSegmentSize(32);
        y.climb(0, 1, 32);
        dueCosts(y, 0, POINT, 31, 0, 1, -1, 33, 2, 2, 32);
    }

    private static void sumCosts() {
        says(0, "SUM: PLAIN l - f + 1; CONSTANT 1; RUNS 1 plus the number of runs that begin at or before l; DICTIONARY"
            + " l - f + 1 plus the number of different values of the segment; FRAME l - f + 2; DELTA l + 1.");
        ColumnChooser x = segmentOf(5, 5, 9, 5, 5);
        dueCosts(x, 0, SUM, 0, 1, 1, -1, 2, 3, 2, 1);
        dueCosts(x, 0, SUM, 0, 2, 2, -1, 2, 4, 3, 2);
        dueCosts(x, 0, SUM, 1, 3, 2, -1, 3, 4, 3, 3);
        dueCosts(x, 0, SUM, 2, 3, 1, -1, 3, 3, 2, 3);
        dueCosts(x, 0, SUM, 3, 4, 1, -1, 4, 3, 2, 4);
        dueCosts(x, 0, SUM, 4, 5, 1, -1, 4, 3, 2, 5);
        dueCosts(x, 0, SUM, 0, 5, 5, -1, 4, 7, 6, 5);
        dueCosts(x, 0, SUM, 0, 96, 5, -1, 4, 7, 6, 5);
        dueCosts(segmentOf(8), 0, SUM, 0, 1, 1, 1, 2, 2, 2, 1);
        ColumnChooser y = new ColumnChooser();
        y.setSegmentSize(32);
        y.climb(0, 1, 32);
        dueCosts(y, 0, SUM, 0, 32, 32, -1, 33, 64, 33, 32);
    }

    private static void countCosts() {
        says(0, "COUNT: PLAIN m; CONSTANT 1; RUNS the number of runs, plus 1; DICTIONARY the number of different"
            + " values, plus m if a is among them; FRAME 1, plus m if a is at least the least value and less than this"
            + " plus 2^w; DELTA m.");
        ColumnChooser one = segmentOf(8);
        dueCosts(one, 0, COUNT, 7, 0, 1, 1, 2, 1, 1, 1);
        dueCosts(one, 0, COUNT, 8, 0, 1, 1, 2, 2, 2, 1);
        dueCosts(one, 0, COUNT, 9, 0, 1, 1, 2, 1, 1, 1);
        // The difference is 2, the width 2: the frame goes from -1 to 2.
        ColumnChooser x = segmentOf(1, 1, -1, 1, 0);
        dueCosts(x, 0, COUNT, -2, 0, 5, -1, 5, 3, 1, 5);
        dueCosts(x, 0, COUNT, -1, 0, 5, -1, 5, 8, 6, 5);
        dueCosts(x, 0, COUNT, 0, 0, 5, -1, 5, 8, 6, 5);
        dueCosts(x, 0, COUNT, 1, 0, 5, -1, 5, 8, 6, 5);
        dueCosts(x, 0, COUNT, 2, 0, 5, -1, 5, 3, 6, 5);
        dueCosts(x, 0, COUNT, 3, 0, 5, -1, 5, 3, 1, 5);
        // The frame's end lies beyond all values.
        ColumnChooser wide = segmentOf(-100000, 100000, 100000);
        dueCosts(wide, 0, COUNT, -100000, 0, 3, -1, 3, 5, 4, 3);
        dueCosts(wide, 0, COUNT, 0, 0, 3, -1, 3, 2, 4, 3);
        dueCosts(wide, 0, COUNT, 100000, 0, 3, -1, 3, 5, 4, 3);
        ColumnChooser high = segmentOf(100000, 99999);
        dueCosts(high, 0, COUNT, -100000, 0, 2, -1, 3, 2, 1, 2);
        dueCosts(high, 0, COUNT, 99998, 0, 2, -1, 3, 2, 1, 2);
        dueCosts(high, 0, COUNT, 99999, 0, 2, -1, 3, 4, 3, 2);
        ColumnChooser all = new ColumnChooser();
        all.setSegmentSize(32);
        all.climb(0, 1, 32);
        dueCosts(all, 0, COUNT, 31, 0, 32, -1, 33, 64, 33, 32);
        dueCosts(all, 0, COUNT, 32, 0, 32, -1, 33, 32, 1, 32);
    }

    private static void scores() {
        says(0, "The score of a segment with an encoding is the price of a bit times its size, plus, for each query,"
            + " its weight times its cost.");
        ColumnChooser x = segmentOf(8, 8);
        due("the score without queries", x.scoreWith(0, PLAIN), 36);
        x.setPrice(0);
        due("the score without queries and price", x.scoreWith(0, PLAIN), 0);
        x.addQuery(COUNT, 8, 0, 1);
        due("the score with the weight 1", x.scoreWith(0, PLAIN), 2);
        x.addQuery(COUNT, 8, 0, 100);
        due("the score with the weights 1 and 100", x.scoreWith(0, PLAIN), 202);
        x.addQuery(POINT, 2, 0, 100);
        due("the score with a query without a row", x.scoreWith(0, PLAIN), 202);
        x.setPrice(100);
        due("the score with the price 100", x.scoreWith(0, PLAIN), 3802);
        ColumnChooser most = new ColumnChooser();
        most.setSegmentSize(32);
        most.climb(0, 1, 96);
        most.setPrice(100);
        for (int i = 0; i < 20; i++) {
            most.addQuery(SUM, 0, 96, 100);
        }
        due("the greatest score with RUNS", most.scoreWith(2, RUNS), 100 * 768 + 20 * 100 * 33);
        due("the greatest score with DICTIONARY", most.scoreWith(0, DICTIONARY), 100 * 742 + 20 * 100 * 64);
    }

    private static void price() {
        says(0, "The price of a bit is 0 to 100, 1 at first.");
        due("the price at first", new ColumnChooser().setPrice(5), 1);
        due("the score at first", segmentOf(8).score(), 18);
        taken(Sentences::few, "setPrice(0)", x -> x.setPrice(0));
        taken(Sentences::few, "setPrice(100)", x -> x.setPrice(100));
        refused(Sentences::few, "setPrice(-1)", ARGUMENT, x -> x.setPrice(-1));
        refused(Sentences::few, "setPrice(101)", ARGUMENT, x -> x.setPrice(101));
    }

    private static void nothingChanges() {
        says(0, "A method that throws an exception changes nothing.");
        for (Maker maker : new Maker[] {Sentences::empty, Sentences::few, Sentences::full}) {
            int rows = maker.make().rows();
            int segments = maker.make().segmentCount();
            refused(maker, "append(100001, 1)", ARGUMENT, x -> x.append(100001, 1));
            refused(maker, "append(1, 97)", ARGUMENT, x -> x.append(1, 97));
            refused(maker, "climb(99999, 1, 3)", ARGUMENT, x -> x.climb(99999, 1, 3));
            refused(maker, "climb(0, 1, 0)", ARGUMENT, x -> x.climb(0, 1, 0));
            refused(maker, "set(" + rows + ", 1)", INDEX, x -> x.set(rows, 1));
            refused(maker, "set(-1, 1)", INDEX, x -> x.set(-1, 1));
            refused(maker, "cut(" + (rows + 1) + ")", ARGUMENT, x -> x.cut(rows + 1));
            refused(maker, "cut(-1)", ARGUMENT, x -> x.cut(-1));
            refused(maker, "value(" + rows + ")", INDEX, x -> x.value(rows));
            refused(maker, "setSegmentSize(3)", ARGUMENT, x -> x.setSegmentSize(3));
            refused(maker, "setSegmentSize(33)", ARGUMENT, x -> x.setSegmentSize(33));
            refused(maker, "addQuery(3, 0, 1, 1)", ARGUMENT, x -> x.addQuery(3, 0, 1, 1));
            refused(maker, "addQuery(1, 0, 1, 101)", ARGUMENT, x -> x.addQuery(SUM, 0, 1, 101));
            refused(maker, "setPrice(101)", ARGUMENT, x -> x.setPrice(101));
            refused(maker, "answer(20)", INDEX, x -> x.answer(20));
            refused(maker, "sizeWith", INDEX, x -> x.sizeWith(segments, PLAIN));
            refused(maker, "costWith", INDEX, x -> x.costWith(20, 0, PLAIN));
            refused(maker, "scoreWith", INDEX, x -> x.scoreWith(segments, PLAIN));
            refused(maker, "use", INDEX, x -> x.use(segments, PLAIN));
            refused(maker, "use", INDEX, x -> x.use(0, 6));
            refused(maker, "encoding", INDEX, x -> x.encoding(segments));
            refused(maker, "bitCount", INDEX, x -> x.bitCount(segments));
            refused(maker, "bit", INDEX, x -> x.bit(segments, 0));
        }
        refused(Sentences::few, "set(0, 100001)", ARGUMENT, x -> x.set(0, 100001));
        refused(Sentences::few, "append(1, 91)", STATE, x -> x.append(1, 91));
        refused(Sentences::few, "climb(1, 1, 91)", STATE, x -> x.climb(1, 1, 91));
        refused(Sentences::few, "use(0, CONSTANT)", ARGUMENT, x -> x.use(0, CONSTANT));
        refused(Sentences::full, "append(1, 1)", STATE, x -> x.append(1, 1));
        refused(Sentences::full, "climb(1, 1, 1)", STATE, x -> x.climb(1, 1, 1));
        refused(Sentences::full, "addQuery(0, 0, 0, 1)", STATE, x -> x.addQuery(POINT, 0, 0, 1));
    }

    private static void namedFirst() {
        says(0, "If several exceptions apply, the one that is named first is thrown.");
        refused(Sentences::full, "append(100001, 1)", ARGUMENT, x -> x.append(100001, 1));
        refused(Sentences::full, "append(0, 97)", ARGUMENT, x -> x.append(0, 97));
        refused(Sentences::full, "climb(0, 100001, 2)", ARGUMENT, x -> x.climb(0, 100001, 2));
        refused(Sentences::full, "climb(0, 1, 97)", ARGUMENT, x -> x.climb(0, 1, 97));
        refused(Sentences::full, "set(96, 100001)", INDEX, x -> x.set(96, 100001));
        refused(Sentences::empty, "set(0, -100001)", INDEX, x -> x.set(0, -100001));
        refused(Sentences::full, "addQuery(3, 0, 1, 1)", ARGUMENT, x -> x.addQuery(3, 0, 1, 1));
        refused(Sentences::full, "addQuery(0, 96, 0, 1)", ARGUMENT, x -> x.addQuery(POINT, 96, 0, 1));
        refused(Sentences::full, "addQuery(1, 1, 1, 1)", ARGUMENT, x -> x.addQuery(SUM, 1, 1, 1));
        refused(Sentences::full, "addQuery(2, 100001, 0, 1)", ARGUMENT, x -> x.addQuery(COUNT, 100001, 0, 1));
        refused(Sentences::full, "addQuery(0, 0, 0, 0)", ARGUMENT, x -> x.addQuery(POINT, 0, 0, 0));
        refused(Sentences::few, "use(2, CONSTANT)", INDEX, x -> x.use(2, CONSTANT));
        refused(Sentences::few, "use(-1, CONSTANT)", INDEX, x -> x.use(-1, CONSTANT));
        refused(Sentences::few, "use(0, 6)", INDEX, x -> x.use(0, 6));
    }
}
