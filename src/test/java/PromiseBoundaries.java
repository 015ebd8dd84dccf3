import java.math.BigInteger;

/** A test for each sentence of the promises, at the boundaries that it names. */
public final class PromiseBoundaries extends Sentences {
    private static final String NO_ROW = "Throws `IndexOutOfBoundsException` if there is no such row";
    private static final String NO_SEGMENT = "Throws `IndexOutOfBoundsException` if there is no such segment";
    private static final String NO_SEGMENT_OR_ENCODING = NO_SEGMENT + ", or encoding is not 0 to 5";
    private static final String TOO_MANY_ROWS = "Throws `IllegalStateException` if there would be more than 96 rows";
    private static final String NUMBER_OF_ROWS = "Returns the number of rows.";

    private static final int[] NO_VALUES = {-100001, 100001, -131072, 131072, LOWEST, HIGHEST};
    private static final int[] NO_MANIES = {0, -1, 97, LOWEST, HIGHEST};
    private static final int[] NO_ENCODINGS = {-1, 6, LOWEST, HIGHEST};
    private static final Maker[] MAKERS = {Sentences::empty, Sentences::few, Sentences::full};

    private interface SegmentCall {
        long on(ColumnChooser x, int segment, int encoding);
    }

    public static void main(String[] args) {
        newObject();
        append();
        climb();
        set();
        cut();
        rows();
        value();
        setSegmentSize();
        segmentCount();
        addQuery();
        clearQueries();
        setPrice();
        answer();
        sizeWith();
        costWith();
        scoreWith();
        choose();
        use();
        encoding();
        bitCount();
        bit();
        size();
        score();
        bestSegmentSize();
        ratio();
        digest();
        end(1, 26);
    }

    private static void newObject() {
        says(1, "Creates a chooser with an empty column and an empty trace.");
        ColumnChooser x = new ColumnChooser();
        due("rows()", x.rows(), 0);
        due("segmentCount()", x.segmentCount(), 0);
        due("size()", x.size(), 0);
        due("score()", x.score(), 0);
        due("choose()", x.choose(), 0);
        due("cut(0)", x.cut(0), 0);
        due("bestSegmentSize()", x.bestSegmentSize(), 4);
        dueRatio("ratio()", x.ratio(), 1.0);
        due("clearQueries()", x.clearQueries(), 0);
        due("setPrice(1)", x.setPrice(1), 1);
        due("setSegmentSize(16)", x.setSegmentSize(16), 16);
        refused(Sentences::empty, "value(0)", INDEX, y -> y.value(0));
        refused(Sentences::empty, "set(0, 0)", INDEX, y -> y.set(0, 0));
        refused(Sentences::empty, "cut(1)", ARGUMENT, y -> y.cut(1));
        refused(Sentences::empty, "answer(0)", INDEX, y -> y.answer(0));
        refused(Sentences::empty, "bit(0, 0)", INDEX, y -> y.bit(0, 0));
        ColumnChooser other = full();
        due("another object", picture(new ColumnChooser()), picture(x));
        due("the full object beside it", picture(other), picture(full()));
    }

    private static void append() {
        says(2, "Appends a value several times.");
        for (int many : new int[] {1, 2, 95, 96}) {
            for (int value : new int[] {-100000, 0, 100000}) {
                ColumnChooser x = new ColumnChooser();
                x.append(value, many);
                for (int i = 0; i < many; i++) {
                    due("value(" + i + ") after append(" + value + ", " + many + ")", x.value(i), value);
                }
                due("value(" + many + ") throws: it", thrownBy(x, y -> y.value(many)), INDEX);
            }
        }
        ColumnChooser z = few();
        z.append(-4, 3);
        due("the values, appended to segments with encodings", valuesOf(z), "5 5 5 9 9 7 -4 -4 -4");

        says(2, NUMBER_OF_ROWS);
        due("append(1, 1)", new ColumnChooser().append(1, 1), 1);
        due("append(1, 96)", new ColumnChooser().append(1, 96), 96);
        due("append(1, 90)", few().append(1, 90), 96);

        says(2, "Throws `IllegalArgumentException` if value is not -100000 to 100000, or many is not 1 to 96");
        for (Maker maker : MAKERS) {
            for (int value : NO_VALUES) {
                refused(maker, "append(" + value + ", 1)", ARGUMENT, x -> x.append(value, 1));
            }
            for (int many : NO_MANIES) {
                refused(maker, "append(1, " + many + ")", ARGUMENT, x -> x.append(1, many));
                refused(maker, "append(100001, " + many + ")", ARGUMENT, x -> x.append(100001, many));
            }
        }
        taken(Sentences::few, "append(-100000, 1)", x -> x.append(-100000, 1));
        taken(Sentences::few, "append(100000, 1)", x -> x.append(100000, 1));
        taken(Sentences::empty, "append(1, 96)", x -> x.append(1, 96));

        says(2, TOO_MANY_ROWS);
        for (int rows = 1; rows <= 96; rows++) {
            int before = rows;
            Maker maker = () -> rowsOf(before);
            refused(maker, "append(1, " + (97 - before) + ")", STATE, x -> x.append(1, 97 - before));
            refused(maker, "append(1, 96)", STATE, x -> x.append(1, 96));
            if (before < 96) {
                taken(maker, "append(1, " + (96 - before) + ")", x -> x.append(1, 96 - before));
            }
        }
    }

    private static ColumnChooser rowsOf(int many) {
        ColumnChooser x = new ColumnChooser();
        x.climb(-50, 1, many);
        return x;
    }

    private static void climb() {
        says(3, "Appends values that follow each other with a step.");
        dueClimb(5, 0, 3, "5 5 5");
        dueClimb(5, 1, 1, "5");
        dueClimb(-100000, 100000, 3, "-100000 0 100000");
        dueClimb(100000, -100000, 3, "100000 0 -100000");
        dueClimb(-100000, 200000, 2, "-100000 100000");
        dueClimb(100000, -200000, 2, "100000 -100000");
        // With one value the step goes nowhere.
        dueClimb(7, HIGHEST, 1, "7");
        dueClimb(7, LOWEST, 1, "7");
        dueClimb(-100000, -1, 1, "-100000");
        dueClimb(100000, 1, 1, "100000");
        ColumnChooser x = new ColumnChooser();
        x.climb(100000 - 95 * 2105, 2105, 96);
        due("value(0)", x.value(0), -99975);
        due("value(94)", x.value(94), 97895);
        due("value(95)", x.value(95), 100000);

        says(3, NUMBER_OF_ROWS);
        due("climb(0, 1, 1)", new ColumnChooser().climb(0, 1, 1), 1);
        due("climb(0, 1, 96)", new ColumnChooser().climb(0, 1, 96), 96);
        due("climb(0, 1, 90)", few().climb(0, 1, 90), 96);

        says(3, "Throws `IllegalArgumentException` if one of the values is not -100000 to 100000, or many is not"
            + " 1 to 96");
        int[][] wrong = {{100001, 0, 1}, {-100001, 0, 1}, {100001, -1, 2}, {-100001, 1, 2}, {100000, 1, 2},
            {-100000, -1, 2}, {99999, 1, 3}, {-99999, -1, 3}, {0, 1053, 96}, {0, -1053, 96}, {-100000, 200001, 2},
            {100000, -200001, 2}, {LOWEST, HIGHEST, 2}, {HIGHEST, LOWEST, 2}, {LOWEST, 0, 1}, {HIGHEST, 0, 1}};
        for (Maker maker : MAKERS) {
            for (int[] a : wrong) {
                dueNoClimb(maker, a[0], a[1], a[2]);
            }
            for (int many : NO_MANIES) {
                dueNoClimb(maker, 0, 1, many);
                dueNoClimb(maker, 0, 0, many);
            }
        }
        // Values that come back to a small number where an int wraps around.
        dueNoClimb(Sentences::few, 0, 1 << 30, 5);
        dueNoClimb(Sentences::few, 0, LOWEST, 3);
        dueNoClimb(Sentences::few, 0, LOWEST, 2);
        dueNoClimb(Sentences::few, 1, HIGHEST, 3);
        // 99991 is a prime: the last value is another one, and is 99991 as an int.
        BigInteger wrap = BigInteger.ONE.shiftLeft(32);
        for (int many = 4; many <= 90; many += 2) {
            int step = BigInteger.valueOf(many - 1).modInverse(wrap).intValue() * 99991;
            due("the last value as an int", (many - 1) * step, 99991);
            dueNoClimb(Sentences::few, 0, step, many);
        }

        says(3, TOO_MANY_ROWS);
        for (int rows = 1; rows <= 96; rows++) {
            int before = rows;
            Maker maker = () -> rowsOf(before);
            refused(maker, "climb(0, 1, " + (97 - before) + ")", STATE, y -> y.climb(0, 1, 97 - before));
            refused(maker, "climb(0, 1, 96)", STATE, y -> y.climb(0, 1, 96));
            if (before < 96) {
                taken(maker, "climb(0, 1, " + (96 - before) + ")", y -> y.climb(0, 1, 96 - before));
            }
        }
    }

    private static void dueClimb(int first, int step, int many, String want) {
        ColumnChooser x = new ColumnChooser();
        x.climb(first, step, many);
        due("the values after climb(" + first + ", " + step + ", " + many + ")", valuesOf(x), want);
    }

    private static void dueNoClimb(Maker maker, int first, int step, int many) {
        refused(maker, "climb(" + first + ", " + step + ", " + many + ")", ARGUMENT, x -> x.climb(first, step, many));
    }

    private static void set() {
        says(4, "Changes a value (perhaps to the same one; the segment is PLAIN then, too).");
        for (int row = 0; row < 12; row++) {
            String encodings = row < 4 ? "011" : row < 8 ? "101" : "110";
            ColumnChooser same = constants(3);
            same.set(row, 7);
            due("the encodings after set(" + row + ", 7)", encodingsOf(same), encodings);
            due("the values", valuesOf(same), "7 7 7 7 7 7 7 7 7 7 7 7");
            for (int value : new int[] {-100000, 100000}) {
                ColumnChooser x = constants(3);
                x.set(row, value);
                due("the encodings after set(" + row + ", " + value + ")", encodingsOf(x), encodings);
                for (int i = 0; i < 12; i++) {
                    due("value(" + i + ")", x.value(i), i == row ? value : 7);
                }
            }
        }

        says(4, "Returns the value before.");
        for (int value : new int[] {-100000, -1, 0, 1, 100000}) {
            for (int e = PLAIN; e <= DELTA; e++) {
                ColumnChooser x = segmentOf(value, value, value);
                x.use(0, e);
                due("set(2, 5) with " + e, x.set(2, 5), value);
                due("set(2, 6)", x.set(2, 6), 5);
                due("set(0, 6)", x.set(0, 6), value);
            }
        }
        due("set(95, 0)", full().set(95, 0), 100000);

        says(4, NO_ROW);
        dueNoRow("set(row, 0)", (x, row, e) -> x.set(row, 0));
        dueNoRow("set(row, 100001)", (x, row, e) -> x.set(row, 100001));
        taken(Sentences::full, "set(0, 0)", x -> x.set(0, 0));
        taken(Sentences::full, "set(95, 0)", x -> x.set(95, 0));

        says(4, "Throws `IllegalArgumentException` if value is not -100000 to 100000");
        for (int value : NO_VALUES) {
            refused(Sentences::few, "set(0, " + value + ")", ARGUMENT, x -> x.set(0, value));
            refused(Sentences::few, "set(5, " + value + ")", ARGUMENT, x -> x.set(5, value));
            refused(Sentences::full, "set(95, " + value + ")", ARGUMENT, x -> x.set(95, value));
        }
        taken(Sentences::few, "set(5, -100000)", x -> x.set(5, -100000));
        taken(Sentences::few, "set(5, 100000)", x -> x.set(5, 100000));
    }

    private static void dueNoRow(String call, SegmentCall made) {
        for (Maker maker : MAKERS) {
            for (int row : new int[] {-1, maker.make().rows(), 96, 97, LOWEST, HIGHEST}) {
                refused(maker, call + " with row " + row, INDEX, x -> made.on(x, row, 0));
            }
        }
        // A row that is no more.
        Maker cut = () -> {
            ColumnChooser x = full();
            x.cut(1);
            return x;
        };
        refused(cut, call + " with a row that was cut", INDEX, x -> made.on(x, 95, 0));
    }

    private static void cut() {
        says(5, "Removes the last rows.");
        dueCut(0, "5 5 5 9 9 7", "25");
        dueCut(1, "5 5 5 9 9", "20");
        dueCut(2, "5 5 5 9", "2");
        dueCut(3, "5 5 5", "0");
        dueCut(5, "5", "0");
        dueCut(6, "", "");
        ColumnChooser again = few();
        again.cut(6);
        again.append(8, 2);
        due("the values, all cut and appended again", valuesOf(again), "8 8");
        ColumnChooser untouched = full();
        untouched.cut(0);
        due("the object after cut(0)", picture(untouched), picture(full()));

        says(5, NUMBER_OF_ROWS);
        due("cut(0)", few().cut(0), 6);
        due("cut(1)", few().cut(1), 5);
        due("cut(6)", few().cut(6), 0);
        due("cut(96)", full().cut(96), 0);
        due("cut(95)", full().cut(95), 1);
        due("cut(0) of no rows", new ColumnChooser().cut(0), 0);

        says(5, "Throws `IllegalArgumentException` if many is negative, or greater than the number of rows");
        for (Maker maker : MAKERS) {
            for (int many : new int[] {-1, maker.make().rows() + 1, 97, LOWEST, HIGHEST}) {
                refused(maker, "cut(" + many + ")", ARGUMENT, x -> x.cut(many));
            }
        }
        for (int rows = 1; rows <= 96; rows++) {
            int all = rows;
            refused(() -> rowsOf(all), "cut(" + (all + 1) + ")", ARGUMENT, x -> x.cut(all + 1));
            taken(() -> rowsOf(all), "cut(" + all + ")", x -> x.cut(all));
        }
    }

    private static void dueCut(int many, String values, String encodings) {
        ColumnChooser x = few();
        x.cut(many);
        due("the values after cut(" + many + ")", valuesOf(x), values);
        due("the encodings after cut(" + many + ")", encodingsOf(x), encodings);
    }

    private static void rows() {
        says(6, NUMBER_OF_ROWS);
        due("rows() of no rows", new ColumnChooser().rows(), 0);
        due("rows() of a full column", full().rows(), 96);
        ColumnChooser x = new ColumnChooser();
        x.append(1, 1);
        due("rows()", x.rows(), 1);
        x.cut(1);
        due("rows() when all are cut", x.rows(), 0);
        ColumnChooser y = full();
        thrownBy(y, z -> z.append(1, 1));
        due("rows() after a refused append", y.rows(), 96);
    }

    private static void value() {
        says(7, "Reads a value from the bits of its segment.");
        int[] wide = {-100000, 100000, 100000, 0, -1, 1, 1, 1, 99999, -99999};
        for (int size = 4; size <= 32; size += 7) {
            for (int e : new int[] {PLAIN, RUNS, DICTIONARY, FRAME, DELTA}) {
                ColumnChooser x = new ColumnChooser();
                x.setSegmentSize(size);
                for (int i = 0; i < 96; i++) {
                    x.append(wide[i % 10], 1);
                }
                int count = x.segmentCount();
                for (int k = 0; k < count; k++) {
                    x.use(k, e);
                }
                for (int i = 0; i < 96; i++) {
                    due("value(" + i + ") with " + e, x.value(i), wide[i % 10]);
                }
            }
        }

        says(7, "Returns the value.");
        for (int value : new int[] {-100000, -1, 0, 1, 100000}) {
            for (int e = PLAIN; e <= DELTA; e++) {
                ColumnChooser x = segmentOf(value);
                x.use(0, e);
                due("value(0) with " + e, x.value(0), value);
            }
        }
        ColumnChooser constant = constants(24);
        due("value(0)", constant.value(0), 7);
        due("value(95)", constant.value(95), 7);

        says(7, NO_ROW);
        dueNoRow("value(row)", (x, row, e) -> x.value(row));
        taken(Sentences::full, "value(0)", x -> x.value(0));
        taken(Sentences::full, "value(95)", x -> x.value(95));
    }

    private static void setSegmentSize() {
        says(8, "Sets the segment size.");
        for (int size = 4; size <= 32; size++) {
            ColumnChooser x = full();
            x.setSegmentSize(size);
            due("segmentCount() with " + size, x.segmentCount(), (95 + size) / size);
            due("bitCount(0) with " + size, x.bitCount(0), size == 32 ? 18 : 18 * size);
            for (int row : new int[] {0, 31, 32, 63, 64, 94, 95}) {
                due("value(" + row + ") with " + size, x.value(row), full().value(row));
            }
        }
        ColumnChooser same = full();
        same.setSegmentSize(32);
        due("the object after the same size", picture(same), picture(full()));

        says(8, "Returns the size before.");
        ColumnChooser y = new ColumnChooser();
        due("setSegmentSize(4)", y.setSegmentSize(4), 16);
        due("setSegmentSize(32)", y.setSegmentSize(32), 4);
        due("setSegmentSize(32)", y.setSegmentSize(32), 32);
        due("setSegmentSize(33) throws: it", thrownBy(y, z -> z.setSegmentSize(33)), ARGUMENT);
        due("setSegmentSize(5)", y.setSegmentSize(5), 32);

        says(8, "Throws `IllegalArgumentException` if size is not 4 to 32");
        for (Maker maker : MAKERS) {
            for (int size : new int[] {3, 33, 0, -1, -4, LOWEST, HIGHEST}) {
                refused(maker, "setSegmentSize(" + size + ")", ARGUMENT, x -> x.setSegmentSize(size));
            }
            taken(maker, "setSegmentSize(4)", x -> x.setSegmentSize(4));
            taken(maker, "setSegmentSize(32)", x -> x.setSegmentSize(32));
        }
    }

    private static void segmentCount() {
        says(9, "Returns the number of segments.");
        due("segmentCount() of no rows", new ColumnChooser().segmentCount(), 0);
        for (int size : new int[] {4, 16, 31, 32}) {
            ColumnChooser x = new ColumnChooser();
            x.setSegmentSize(size);
            for (int rows = 1; rows <= 96; rows++) {
                x.append(1, 1);
                due("segmentCount() of " + rows + " rows with " + size, x.segmentCount(), (rows - 1) / size + 1);
            }
            for (int rows = 95; rows >= 0; rows--) {
                x.cut(1);
                due("segmentCount() of " + rows + " rows with " + size, x.segmentCount(), (rows + size - 1) / size);
            }
        }
    }

    private static void addQuery() {
        says(10, "Appends a query to the trace.");
        ColumnChooser x = few();
        x.addQuery(SUM, 0, 2, 100);
        due("answer(0)", x.answer(0), 9);
        due("answer(1)", x.answer(1), 23);
        due("answer(2)", x.answer(2), 2);
        due("answer(3)", x.answer(3), 10);
        due("costWith(3, 0, DELTA)", x.costWith(3, 0, DELTA), 2);

        says(10, "Returns its number.");
        ColumnChooser y = new ColumnChooser();
        for (int i = 0; i < 20; i++) {
            due("addQuery", y.addQuery(COUNT, 0, 0, 1), i);
        }
        y.clearQueries();
        due("addQuery after clearQueries", y.addQuery(COUNT, 0, 0, 1), 0);
        due("addQuery(3, ..) throws: it", thrownBy(y, z -> z.addQuery(3, 0, 1, 1)), ARGUMENT);
        due("addQuery after a refused one", y.addQuery(COUNT, 0, 0, 1), 1);

        says(10, "Throws `IllegalArgumentException` if kind is not 0 to 2; a of a POINT is not 0 to 95; for a SUM, a is"
            + " negative, b is greater than 96, or a is not less than b; a of a COUNT is not -100000 to 100000; or"
            + " weight is not 1 to 100");
        int[][] wrong = {{-1, 0, 1, 1}, {3, 0, 1, 1}, {LOWEST, 0, 1, 1}, {HIGHEST, 0, 1, 1}, {POINT, -1, 0, 1},
            {POINT, 96, 0, 1}, {POINT, LOWEST, 0, 1}, {POINT, HIGHEST, 0, 1}, {POINT, 96, 97, 1}, {SUM, -1, 1, 1},
            {SUM, -1, 96, 1}, {SUM, 0, 97, 1}, {SUM, 95, 97, 1}, {SUM, 0, 0, 1}, {SUM, 1, 0, 1}, {SUM, 95, 95, 1},
            {SUM, 96, 96, 1}, {SUM, 96, 97, 1}, {SUM, 96, 0, 1}, {SUM, -2, -1, 1}, {SUM, LOWEST, 1, 1},
            {SUM, LOWEST, HIGHEST, 1}, {SUM, 0, HIGHEST, 1}, {SUM, 0, LOWEST, 1}, {SUM, HIGHEST, LOWEST, 1},
            {COUNT, -100001, 0, 1}, {COUNT, 100001, 0, 1}, {COUNT, LOWEST, 0, 1}, {COUNT, HIGHEST, 0, 1},
            {POINT, 0, 0, 0}, {POINT, 0, 0, 101}, {SUM, 0, 1, 0}, {SUM, 0, 1, 101}, {COUNT, 0, 0, 0},
            {COUNT, 0, 0, 101}, {POINT, 0, 0, -1}, {POINT, 0, 0, LOWEST}, {POINT, 0, 0, HIGHEST}};
        int[][] right = {{POINT, 0, 0, 1}, {POINT, 95, 0, 100}, {POINT, 0, LOWEST, 1}, {POINT, 0, HIGHEST, 1},
            {POINT, 95, 0, 1}, {SUM, 0, 1, 1}, {SUM, 0, 96, 100}, {SUM, 95, 96, 1}, {COUNT, -100000, 0, 1},
            {COUNT, 100000, 0, 100}, {COUNT, 0, LOWEST, 1}, {COUNT, 0, HIGHEST, 1}, {COUNT, 96, 97, 1}};
        for (int[] a : wrong) {
            for (Maker maker : MAKERS) {
                refused(maker, callOf(a), ARGUMENT, z -> z.addQuery(a[0], a[1], a[2], a[3]));
            }
        }
        for (int[] a : right) {
            taken(Sentences::empty, callOf(a), z -> z.addQuery(a[0], a[1], a[2], a[3]));
            taken(Sentences::few, callOf(a), z -> z.addQuery(a[0], a[1], a[2], a[3]));
        }

        says(10, "Throws `IllegalStateException` if there are 20 queries");
        for (int[] a : right) {
            refused(Sentences::full, callOf(a), STATE, z -> z.addQuery(a[0], a[1], a[2], a[3]));
        }
        ColumnChooser last = few();
        for (int i = 3; i < 20; i++) {
            due("addQuery when there are " + i, last.addQuery(POINT, 0, 0, 1), i);
        }
        due("addQuery when there are 20 throws: it", thrownBy(last, z -> z.addQuery(POINT, 0, 0, 1)), STATE);
        last.clearQueries();
        due("addQuery when they are cleared", last.addQuery(POINT, 0, 0, 1), 0);
    }

    private static String callOf(int[] a) {
        return "addQuery(" + a[0] + ", " + a[1] + ", " + a[2] + ", " + a[3] + ")";
    }

    private static void clearQueries() {
        says(11, "Removes all queries.");
        for (Maker maker : MAKERS) {
            ColumnChooser x = maker.make();
            x.clearQueries();
            x.setPrice(0);
            due("score() without queries and price", x.score(), 0);
            for (int query : new int[] {0, 1, 2, 19}) {
                due("answer(" + query + ") throws: it", thrownBy(x, y -> y.answer(query)), INDEX);
                due("costWith(" + query + ", 0, 0) throws: it", thrownBy(x, y -> y.costWith(query, 0, 0)), INDEX);
            }
            for (int i = 0; i < 20; i++) {
                due("addQuery after it", x.addQuery(COUNT, 1, 0, 1), i);
            }
        }

        says(11, "Returns how many there were.");
        due("clearQueries() of none", new ColumnChooser().clearQueries(), 0);
        due("clearQueries() of 3", few().clearQueries(), 3);
        ColumnChooser full = full();
        due("clearQueries() of 20", full.clearQueries(), 20);
        due("clearQueries() again", full.clearQueries(), 0);
    }

    private static void setPrice() {
        says(12, "Sets the price of a bit.");
        for (int price = 0; price <= 100; price++) {
            ColumnChooser x = twoSegments();
            x.setPrice(price);
            due("score() with the price " + price, x.score(), 108 * price);
            due("digest()", x.digest(), digestOf(() -> x, 6, 4, price, 0));
        }

        says(12, "Returns the price before.");
        ColumnChooser y = new ColumnChooser();
        due("setPrice(0)", y.setPrice(0), 1);
        due("setPrice(100)", y.setPrice(100), 0);
        due("setPrice(101) throws: it", thrownBy(y, z -> z.setPrice(101)), ARGUMENT);
        due("setPrice(100)", y.setPrice(100), 100);

        says(12, "Throws `IllegalArgumentException` if price is not 0 to 100");
        for (Maker maker : MAKERS) {
            for (int price : new int[] {-1, 101, LOWEST, HIGHEST}) {
                refused(maker, "setPrice(" + price + ")", ARGUMENT, x -> x.setPrice(price));
            }
            taken(maker, "setPrice(0)", x -> x.setPrice(0));
            taken(maker, "setPrice(100)", x -> x.setPrice(100));
        }
    }

    private static void answer() {
        says(13, "Answers a query from the bits of the segments.");
        for (int e : new int[] {PLAIN, RUNS, DICTIONARY, FRAME, DELTA}) {
            ColumnChooser x = twoSegments();
            x.use(0, e);
            x.use(1, e);
            due("the number of a query", x.addQuery(POINT, 5, 0, 1), 0);
            x.addQuery(SUM, 3, 6, 1);
            x.addQuery(COUNT, 9, 0, 1);
            due("answer(0) with " + e, x.answer(0), 7);
            due("answer(1) with " + e, x.answer(1), 25);
            due("answer(2) with " + e, x.answer(2), 2);
            x.set(3, -100000);
            due("answer(1), a value changed", x.answer(1), -100000 + 16);
            due("answer(2), a value changed", x.answer(2), 1);
        }
        ColumnChooser constant = constants(24);
        constant.addQuery(SUM, 0, 96, 1);
        due("answer(0) with CONSTANT", constant.answer(0), 7 * 96);

        says(13, "Returns the answer.");
        ColumnChooser y = full();
        due("answer(0), the POINT 0", y.answer(0), -100000);
        due("answer(1), the SUM 1 95", y.answer(1), -3100000 + 16 + 93);
        due("answer(2), the COUNT -100000", y.answer(2), 32);
        due("answer(19), the SUM 19 77", y.answer(19), -1300000 + 16 + 39);
        y.cut(96);
        for (int q = 0; q < 20; q++) {
            due("answer(" + q + ") of no rows", y.answer(q), 0);
        }

        says(13, "Throws `IndexOutOfBoundsException` if there is no such query");
        for (int query : new int[] {-1, 20, 21, LOWEST, HIGHEST}) {
            for (Maker maker : MAKERS) {
                refused(maker, "answer(" + query + ")", INDEX, x -> x.answer(query));
            }
        }
        refused(Sentences::empty, "answer(0)", INDEX, x -> x.answer(0));
        refused(Sentences::few, "answer(3)", INDEX, x -> x.answer(3));
        taken(Sentences::few, "answer(0)", x -> x.answer(0));
        taken(Sentences::few, "answer(2)", x -> x.answer(2));
        taken(Sentences::full, "answer(19)", x -> x.answer(19));
    }

    private static void dueNoSegment(String name, SegmentCall call) {
        for (Maker maker : MAKERS) {
            int count = maker.make().segmentCount();
            for (int segment : new int[] {-1, count, count + 1, 24, LOWEST, HIGHEST}) {
                for (int e : new int[] {PLAIN, CONSTANT, DELTA}) {
                    refused(maker, name + " of segment " + segment, INDEX, x -> call.on(x, segment, e));
                }
            }
            for (int segment = 0; segment < count; segment++) {
                int k = segment;
                taken(maker, name + " of segment " + k, x -> call.on(x, k, PLAIN));
            }
        }
        // A segment that is no more: 23 is the last one of 96 rows in segments of 4.
        Maker cut = () -> {
            ColumnChooser x = constants(24);
            x.addQuery(COUNT, 7, 0, 1);
            x.cut(4);
            return x;
        };
        refused(cut, name + " of a segment that was cut", INDEX, x -> call.on(x, 23, PLAIN));
        taken(cut, name + " of the segment before it", x -> call.on(x, 22, PLAIN));
    }

    private static void dueNoEncoding(String name, SegmentCall call) {
        for (int e : NO_ENCODINGS) {
            refused(Sentences::few, name + " with encoding " + e, INDEX, x -> call.on(x, 0, e));
            refused(Sentences::full, name + " with encoding " + e, INDEX, x -> call.on(x, 2, e));
            refused(Sentences::empty, name + " with encoding " + e, INDEX, x -> call.on(x, 0, e));
        }
        for (int encoding = PLAIN; encoding <= DELTA; encoding++) {
            int e = encoding;
            taken(Sentences::full, name + " with encoding " + e, x -> call.on(x, 0, e));
        }
    }

    private static void sizeWith() {
        says(14, "Returns the size that the segment has with it; -1 if the encoding is not possible.");
        dueSizes(segmentOf(5), 18, 18, 24, 24, 23, 23);
        dueSizes(segmentOf(5, 5), 36, 18, 24, 24, 23, 23);
        dueSizes(segmentOf(5, 6), 36, -1, 48, 44, 25, 25);
        dueSizes(segmentOf(6, 5), 36, -1, 48, 44, 25, 24);
        dueSizes(segmentOf(-100000, 100000), 36, -1, 48, 44, 59, 42);
        dueSizes(segmentOf(100000, -100000, 100000, -100000), 72, -1, 96, 46, 95, 80);
        ColumnChooser most = new ColumnChooser();
        most.setSegmentSize(32);
        most.climb(-100000, 6451, 32);
        dueSizes(most, 576, -1, 768, 742, 23 + 32 * 18, 23 + 31 * 14);
        ColumnChooser last = new ColumnChooser();
        last.setSegmentSize(4);
        last.climb(0, 1, 93);
        due("sizeWith(23, CONSTANT) of one row", last.sizeWith(23, CONSTANT), 18);
        due("sizeWith(22, CONSTANT) of four rows", last.sizeWith(22, CONSTANT), -1);
        // The encoding that the segment has makes no difference.
        for (int e : new int[] {PLAIN, RUNS, DICTIONARY, FRAME, DELTA}) {
            ColumnChooser x = segmentOf(5, 5, 5, 9);
            x.use(0, e);
            dueSizes(x, 72, -1, 48, 46, 35, 35);
        }

        says(14, NO_SEGMENT_OR_ENCODING);
        dueNoSegment("sizeWith", (x, k, e) -> x.sizeWith(k, e));
        dueNoEncoding("sizeWith", (x, k, e) -> x.sizeWith(k, e));
    }

    private static void dueSizes(ColumnChooser x, int... want) {
        for (int e = PLAIN; e <= DELTA; e++) {
            due("sizeWith(0, " + e + ") of " + x.rows() + " rows", x.sizeWith(0, e), want[e]);
        }
    }

    private static void costWith() {
        says(15, "Returns the cost of the query in the segment with this encoding; -1 if the encoding is not"
            + " possible.");
        ColumnChooser x = few();
        x.append(-3, 3);
        x.append(1, 3);
        x.append(1, 1);
        int[][] point = {{1, -1, 3, 2, 2, 4}, {0, -1, 0, 0, 0, 0}, {0, -1, 0, 0, 0, 0}, {0, 0, 0, 0, 0, 0}};
        int[][] sum = {{2, -1, 3, 4, 3, 4}, {1, -1, 2, 4, 2, 1}, {0, -1, 0, 0, 0, 0}, {0, 0, 0, 0, 0, 0}};
        int[][] count = {{4, -1, 3, 6, 5, 4}, {4, -1, 4, 7, 5, 4}, {4, -1, 3, 2, 1, 4}, {1, 1, 2, 1, 1, 1}};
        for (int k = 0; k < 4; k++) {
            for (int e = PLAIN; e <= DELTA; e++) {
                due("costWith(0, " + k + ", " + e + ")", x.costWith(0, k, e), point[k][e]);
                due("costWith(1, " + k + ", " + e + ")", x.costWith(1, k, e), sum[k][e]);
                due("costWith(2, " + k + ", " + e + ")", x.costWith(2, k, e), count[k][e]);
            }
        }

        says(15, "Throws `IndexOutOfBoundsException` if there is no such query or segment, or encoding is not 0 to 5");
        for (int query : new int[] {-1, 20, 21, LOWEST, HIGHEST}) {
            for (Maker maker : MAKERS) {
                refused(maker, "costWith(" + query + ", 0, 0)", INDEX, y -> y.costWith(query, 0, 0));
                refused(maker, "costWith(" + query + ", 0, CONSTANT)", INDEX, y -> y.costWith(query, 0, CONSTANT));
            }
        }
        refused(Sentences::few, "costWith(3, 0, 0)", INDEX, y -> y.costWith(3, 0, 0));
        refused(Sentences::few, "costWith(3, 0, CONSTANT)", INDEX, y -> y.costWith(3, 0, CONSTANT));
        taken(Sentences::few, "costWith(2, 0, 0)", y -> y.costWith(2, 0, 0));
        taken(Sentences::full, "costWith(19, 2, 5)", y -> y.costWith(19, 2, 5));
        refused(() -> segmentOf(5), "costWith(0, 0, 0) of no queries", INDEX, y -> y.costWith(0, 0, 0));
        dueNoSegment("costWith", (y, k, e) -> y.costWith(0, k, e));
        dueNoEncoding("costWith", (y, k, e) -> y.costWith(0, k, e));
    }

    private static void scoreWith() {
        says(16, "Returns the score of the segment with this encoding; -1 if the encoding is not possible.");
        ColumnChooser x = few();
        // The price 3; the weights 9, 2 and 100.
        int[] first = {216 + 9 + 4 + 400, -1, 144 + 27 + 6 + 300, 138 + 18 + 8 + 600, 105 + 18 + 6 + 500,
            105 + 36 + 8 + 400};
        int[] second = {108 + 2 + 200, -1, 144 + 4 + 300, 132 + 6 + 400, 81 + 4 + 300, 75 + 2 + 200};
        for (int e = PLAIN; e <= DELTA; e++) {
            due("scoreWith(0, " + e + ")", x.scoreWith(0, e), first[e]);
            due("scoreWith(1, " + e + ")", x.scoreWith(1, e), second[e]);
        }
        x.setPrice(0);
        x.clearQueries();
        for (int e = PLAIN; e <= DELTA; e++) {
            due("scoreWith(0, " + e + ") without queries and price", x.scoreWith(0, e), e == CONSTANT ? -1 : 0);
        }
        ColumnChooser one = segmentOf(4);
        one.setPrice(100);
        due("scoreWith(0, CONSTANT) of one row", one.scoreWith(0, CONSTANT), 1800);

        says(16, NO_SEGMENT_OR_ENCODING);
        dueNoSegment("scoreWith", (y, k, e) -> y.scoreWith(k, e));
        dueNoEncoding("scoreWith", (y, k, e) -> y.scoreWith(k, e));
    }

    private static void choose() {
        says(17, "Gives each segment the encoding with the least score; of several, the one with the smallest number.");
        // Of one row, PLAIN and CONSTANT both have 18 bits.
        dueChosen(PLAIN, 1, 5);
        dueChosen(CONSTANT, 1, 5, 5);
        // DELTA has 24 bits, FRAME 25; then 25 both; then 23 + 4 * 3 and 23 + 3 * 4.
        dueChosen(DELTA, 1, 6, 5);
        dueChosen(FRAME, 1, 5, 6);
        dueChosen(FRAME, 1, 5, 5, 5, 9);
        // With the price 0 and no queries all scores are 0.
        dueChosen(PLAIN, 0, 5, 5, 5);
        dueChosen(PLAIN, 0, 5, 6, 7);
        // Of 3 rows and two runs, RUNS has 48 bits and DICTIONARY 45; FRAME and DELTA have more for wide values.
        dueChosen(DICTIONARY, 1, 90000, -90000, -90000);
        dueChosen(RUNS, 1, repeated(-90000, 90000));
        ColumnChooser most = constants(24);
        most.setSegmentSize(5);
        most.setSegmentSize(4);
        most.choose();
        due("the encodings of 24 segments", encodingsOf(most), "111111111111111111111111");
        chooseTies();
        due("choose() of no rows", new ColumnChooser().choose(), 0);

        says(17, "Returns how many segments have another encoding than before.");
        ColumnChooser x = constants(24);
        due("choose() when all have the best one", x.choose(), 0);
        x.setSegmentSize(5);
        x.setSegmentSize(4);
        due("choose() when none has it", x.choose(), 24);
        x.use(23, FRAME);
        due("choose() when the last one has another", x.choose(), 1);
        x.use(0, PLAIN);
        due("choose() when the first one has another", x.choose(), 1);
        due("choose() again", x.choose(), 0);
        due("choose() of no rows", new ColumnChooser().choose(), 0);
        due("choose() of one row", segmentOf(5).choose(), 0);
        ColumnChooser cut = constants(24);
        cut.cut(4);
        due("choose() when the last segment was cut", cut.choose(), 0);
        cut.cut(92);
        due("choose() when all segments were cut", cut.choose(), 0);
    }

    private static int[] repeated(int first, int second) {
        int[] values = new int[32];
        for (int i = 0; i < 32; i++) {
            values[i] = i < 16 ? first : second;
        }
        return values;
    }

    private static void dueChosen(int want, int price, int... values) {
        ColumnChooser x = segmentOf(values);
        x.setPrice(price);
        x.choose();
        due("the encoding chosen for " + valuesOf(x), x.encoding(0), want);
    }

    // The encodings with the least score, in the first place; the price; the values; the queries.
    private static void chooseTies() {
        dueTie("01", 3, new int[] {1});
        dueTie("02", 0, new int[] {5, 5, 5, 0, 0}, new int[] {SUM, 2, 8, 8});
        dueTie("03", 1, new int[] {90000, 90000, 5}, new int[] {POINT, 2, 0, 9});
        dueTie("04", 2, new int[] {5, 90000, 1}, new int[] {COUNT, 0, 0, 20});
        dueTie("05", 0, new int[] {0, 0, 5}, new int[] {POINT, 0, 0, 8});
        dueTie("134", 0, new int[] {0, 0}, new int[] {COUNT, 2, 0, 9});
        dueTie("23", 3, new int[] {5, 5, 5, 90000, 90000, 90000});
        dueTie("24", 1, new int[] {5, 5, 5, 0, 0}, new int[] {SUM, 1, 5, 5});
        dueTie("25", 1, new int[] {0, 0, 0, 1, 1, 1}, new int[] {COUNT, 0, 0, 5});
        dueTie("34", 2, new int[] {1, 1, 0, 0, 0, 5, 5, 1, 1}, new int[] {COUNT, 2, 0, 8});
        dueTie("35", 1, new int[] {5, 1, 1, 1}, new int[] {COUNT, 2, 0, 7});
        dueTie("45", 3, new int[] {1, 1, 5, 5});
        dueTie("023", 3, new int[] {1, 1, 90000, 0}, new int[] {COUNT, 0, 0, 4});
        dueTie("012345", 0, new int[] {5, 5, 5});
    }

    private static void dueTie(String tie, int price, int[] values, int[]... queries) {
        ColumnChooser x = segmentOf(values);
        x.setPrice(price);
        for (int[] a : queries) {
            x.addQuery(a[0], a[1], a[2], a[3]);
        }
        int best = tie.charAt(0) - '0';
        int least = x.scoreWith(0, best);
        for (int e = PLAIN; e <= DELTA; e++) {
            int score = x.scoreWith(0, e);
            boolean fits = tie.indexOf('0' + e) >= 0 ? score == least : score == -1 || score > least;
            due("a tie of " + tie + " with " + e + ", of 1", fits ? 1 : 0, 1);
        }
        for (int before = PLAIN; before <= DELTA; before++) {
            if (x.scoreWith(0, before) >= 0) {
                x.use(0, before);
                due("choose() from " + before + " with a tie of " + tie, x.choose(), before == best ? 0 : 1);
                due("the encoding chosen of " + tie, x.encoding(0), best);
            }
        }
    }

    private static void use() {
        says(18, "Gives a segment an encoding.");
        for (int e = PLAIN; e <= DELTA; e++) {
            ColumnChooser x = constants(24);
            x.use(0, e);
            x.use(23, e);
            due("the encodings", encodingsOf(x), e + "1111111111111111111111" + e);
            due("value(0)", x.value(0), 7);
            due("value(95)", x.value(95), 7);
        }
        for (int before = PLAIN; before <= DELTA; before++) {
            for (int e = PLAIN; e <= DELTA; e++) {
                ColumnChooser x = constants(2);
                ColumnChooser fresh = constants(2);
                x.use(1, before);
                x.use(1, e);
                fresh.use(1, e);
                due("the bits with " + e + " after " + before, bitsOf(x, 1), bitsOf(fresh, 1));
            }
        }
        ColumnChooser same = few();
        same.use(0, RUNS);
        due("the object after use of the encoding that it had", picture(same), picture(few()));

        says(18, "Returns the encoding before.");
        for (int before = PLAIN; before <= DELTA; before++) {
            for (int e = PLAIN; e <= DELTA; e++) {
                ColumnChooser x = constants(2);
                x.use(1, before);
                due("use(1, " + e + ")", x.use(1, e), before);
                due("use(0, " + e + ")", x.use(0, e), CONSTANT);
            }
        }
        due("use at first", segmentOf(1).use(0, DELTA), PLAIN);

        says(18, NO_SEGMENT_OR_ENCODING);
        dueNoSegment("use", (x, k, e) -> x.use(k, e));
        dueNoEncoding("use", (x, k, e) -> x.use(k, e));

        says(18, "Throws `IllegalArgumentException` if the encoding is not possible");
        refused(Sentences::few, "use(0, CONSTANT)", ARGUMENT, x -> x.use(0, CONSTANT));
        refused(Sentences::few, "use(1, CONSTANT)", ARGUMENT, x -> x.use(1, CONSTANT));
        refused(Sentences::full, "use(1, CONSTANT)", ARGUMENT, x -> x.use(1, CONSTANT));
        refused(Sentences::full, "use(2, CONSTANT), the last row differs", ARGUMENT, x -> x.use(2, CONSTANT));
        taken(Sentences::full, "use(0, CONSTANT)", x -> x.use(0, CONSTANT));
        taken(() -> segmentOf(5), "use(0, CONSTANT) of one row", x -> x.use(0, CONSTANT));
        ColumnChooser y = few();
        y.set(3, 5);
        due("use(0, CONSTANT) when it has become possible", y.use(0, CONSTANT), PLAIN);
    }

    private static void encoding() {
        says(19, "Returns its encoding.");
        for (int e = PLAIN; e <= DELTA; e++) {
            ColumnChooser x = constants(24);
            x.use(0, e);
            x.use(23, e);
            due("encoding(0)", x.encoding(0), e);
            due("encoding(1)", x.encoding(1), CONSTANT);
            due("encoding(22)", x.encoding(22), CONSTANT);
            due("encoding(23)", x.encoding(23), e);
        }

        says(19, NO_SEGMENT);
        dueNoSegment("encoding", (x, k, e) -> x.encoding(k));
    }

    private static void bitCount() {
        says(20, "Returns the number of its bits.");
        int[] want = {72, 18, 24, 24, 23, 23};
        for (int e = PLAIN; e <= DELTA; e++) {
            ColumnChooser x = constants(24);
            x.use(23, e);
            due("bitCount(23) with " + e, x.bitCount(23), want[e]);
            due("bitCount(22)", x.bitCount(22), 18);
        }
        due("bitCount(0) of one row", segmentOf(1).bitCount(0), 18);
        ColumnChooser most = new ColumnChooser();
        most.setSegmentSize(32);
        most.climb(0, 1, 96);
        due("bitCount(2) of 32 rows", most.bitCount(2), 576);
        most.use(2, RUNS);
        due("bitCount(2) of 32 runs", most.bitCount(2), 768);
        most.cut(31);
        due("bitCount(2) of the one row that is left", most.bitCount(2), 18);

        says(20, NO_SEGMENT);
        dueNoSegment("bitCount", (x, k, e) -> x.bitCount(k));
    }

    private static void bit() {
        says(21, "Returns the bit.");
        ColumnChooser x = few();
        due("the bits of segment 0", bitsOf(x, 0), bitsOfValue(5) + "000011" + bitsOfValue(9) + "000001");
        due("the bits of segment 1", bitsOf(x, 1), bitsOfValue(9) + "00010" + "11");
        ColumnChooser y = constants(24);
        due("bit(23, 0)", y.bit(23, 0), 1);
        due("bit(23, 1)", y.bit(23, 1), 0);
        due("bit(23, 17)", y.bit(23, 17), 1);
        // All bits of a segment beside others that take the most room.
        Maker most = () -> {
            ColumnChooser z = new ColumnChooser();
            z.setSegmentSize(4);
            for (int i = 0; i < 12; i++) {
                z.append(100000, 1);
                z.append(-100000, 1);
            }
            for (int k = 0; k < 6; k++) {
                z.use(k, k % 2 == 0 ? RUNS : FRAME);
            }
            return z;
        };
        String high = "111000011010100000" + "000001";
        String low = "000111100101100000" + "000001";
        String frame = "000111100101100000" + "10010" + "110000110101000000" + "000000000000000000"
            + "110000110101000000" + "000000000000000000";
        for (int k = 0; k < 6; k++) {
            due("the bits of segment " + k, bitsOf(most, k), k % 2 == 0 ? high + low + high + low : frame);
        }

        says(21, "Throws `IndexOutOfBoundsException` if there is no such segment or bit");
        dueNoSegment("bit", (z, k, e) -> z.bit(k, 0));
        for (Maker maker : new Maker[] {Sentences::few, Sentences::full}) {
            int count = maker.make().segmentCount();
            for (int segment = 0; segment < count; segment++) {
                int k = segment;
                int bits = maker.make().bitCount(k);
                for (int index : new int[] {-1, bits, bits + 1, LOWEST, HIGHEST}) {
                    refused(maker, "bit(" + k + ", " + index + ")", INDEX, z -> z.bit(k, index));
                }
                taken(maker, "bit(" + k + ", " + (bits - 1) + ")", z -> z.bit(k, bits - 1));
            }
        }
        for (int e = PLAIN; e <= DELTA; e++) {
            ColumnChooser z = segmentOf(5, 5);
            z.use(0, e);
            int bits = z.sizeWith(0, e);
            due("the last bit with " + e + " throws: it", thrownBy(z, w -> w.bit(0, bits - 1)), NOTHING);
            due("the bit behind it with " + e + " throws: it", thrownBy(z, w -> w.bit(0, bits)), INDEX);
        }
        refused(Sentences::few, "bit(-1, -1)", INDEX, z -> z.bit(-1, -1));
    }

    private static void size() {
        says(22, "Returns the number of bits of all segments.");
        due("size() of no rows", new ColumnChooser().size(), 0);
        due("size() of one row", segmentOf(5).size(), 18);
        due("size() of two segments", few().size(), 48 + 25);
        due("size() of three segments", full().size(), 18 + 742 + 23 + 32 * 17);
        due("size() of 24 segments", constants(24).size(), 24 * 18);
        ColumnChooser x = new ColumnChooser();
        x.climb(0, 1, 96);
        due("size() of 96 rows", x.size(), 96 * 18);
        for (int k = 0; k < 6; k++) {
            x.use(k, RUNS);
        }
        due("size() of 96 runs", x.size(), 96 * 24);
        x.cut(96);
        due("size() when all rows are cut", x.size(), 0);
    }

    private static void score() {
        says(23, "Returns the sum of the scores of all segments, with the encodings that they have.");
        due("score() of no rows", new ColumnChooser().score(), 0);
        due("score() of one row", segmentOf(5).score(), 18);
        due("score() of two segments", few().score(), 144 + 27 + 6 + 300 + 75 + 2 + 200);
        ColumnChooser x = full();
        long sum = 0;
        for (int k = 0; k < 3; k++) {
            sum += x.scoreWith(k, x.encoding(k));
        }
        due("score() of three segments", x.score(), sum);
        x.cut(96);
        due("score() of queries without rows", x.score(), 0);
        ColumnChooser most = new ColumnChooser();
        most.setSegmentSize(32);
        most.climb(0, 1, 96);
        most.setPrice(100);
        for (int i = 0; i < 20; i++) {
            most.addQuery(SUM, 0, 96, 100);
        }
        for (int k = 0; k < 3; k++) {
            most.use(k, DICTIONARY);
        }
        due("a great score()", most.score(), 3 * (100 * 742 + 20 * 100 * 64));
    }

    private static void bestSegmentSize() {
        says(24, "Tells the segment size with which the sum of the scores would be least, if the encodings were"
            + " chosen.");
        for (int length = 4; length <= 32; length++) {
            ColumnChooser x = new ColumnChooser();
            x.append(-90000, length);
            x.append(90000, length);
            x.append(-90000, length);
            x.addQuery(COUNT, -90000, 0, 100);
            due("bestSegmentSize() of runs of " + length, x.bestSegmentSize(), length);
            due("the same, found by setting each size", x.bestSegmentSize(), leastBySetting(x));
        }
        ColumnChooser y = full();
        due("bestSegmentSize() of a full column", y.bestSegmentSize(), leastBySetting(full()));
        y.setSegmentSize(4);
        due("bestSegmentSize() with another size set", y.bestSegmentSize(), leastBySetting(full()));
        // 1599 with 32; with 4 it is 1638, of which the last of the 24 segments has 49.
        ColumnChooser close = new ColumnChooser();
        close.setPrice(2);
        for (int i = 0; i < 6; i++) {
            close.append(300, 4);
            close.append(90000, 4);
            close.append(5, 2);
            close.append(-90000, 6);
        }
        close.addQuery(COUNT, 300, 0, 13);
        close.addQuery(POINT, 32, 0, 48);
        due("bestSegmentSize(), where the last of 24 segments counts", close.bestSegmentSize(), 32);

        says(24, "Nothing changes.");
        for (Maker maker : MAKERS) {
            ColumnChooser x = maker.make();
            x.bestSegmentSize();
            due("the object after bestSegmentSize()", picture(x), picture(maker.make()));
        }

        says(24, "Returns this segment size, 4 to 32; of several, the smallest one.");
        due("bestSegmentSize() of no rows", new ColumnChooser().bestSegmentSize(), 4);
        due("bestSegmentSize() of one row", segmentOf(5).bestSegmentSize(), 4);
        for (int rows = 1; rows <= 32; rows++) {
            ColumnChooser x = new ColumnChooser();
            x.append(5, rows);
            due("bestSegmentSize() of " + rows + " equal rows", x.bestSegmentSize(), rows < 4 ? 4 : rows);
        }
        // 3 and 33 would be better, if they were segment sizes.
        ColumnChooser threes = new ColumnChooser();
        threes.append(-90000, 3);
        threes.append(90000, 3);
        threes.addQuery(COUNT, -90000, 0, 100);
        due("bestSegmentSize() of two runs of 3", threes.bestSegmentSize(), 6);
        due("bestSegmentSize() of 33 equal rows", equalRows(33).bestSegmentSize(), 17);
        // The smallest size that needs three segments.
        due("bestSegmentSize() of 65 equal rows", equalRows(65).bestSegmentSize(), 22);
        due("bestSegmentSize() of 72 equal rows", equalRows(72).bestSegmentSize(), 24);
        due("bestSegmentSize() of 93 equal rows", equalRows(93).bestSegmentSize(), 31);
        due("bestSegmentSize() of 96 equal rows", equalRows(96).bestSegmentSize(), 32);
        ColumnChooser free = full();
        free.clearQueries();
        free.setPrice(0);
        due("bestSegmentSize() when all scores are 0", free.bestSegmentSize(), 4);
    }

    private static ColumnChooser equalRows(int many) {
        ColumnChooser x = new ColumnChooser();
        x.append(-5, many);
        return x;
    }

    private static int leastBySetting(ColumnChooser x) {
        int best = 0;
        int least = HIGHEST;
        for (int size = 4; size <= 32; size++) {
            x.setSegmentSize(size);
            x.choose();
            int score = x.score();
            if (score < least) {
                least = score;
                best = size;
            }
        }
        return best;
    }

    private static void ratio() {
        says(25, "Returns the number of bits of all segments divided by the number of bits that they would have if all"
            + " were PLAIN; 1 if there are no rows.");
        dueRatio("ratio() of no rows", new ColumnChooser().ratio(), 1.0);
        dueRatio("ratio() of one row", segmentOf(5).ratio(), 1.0);
        dueRatio("ratio() of two segments", few().ratio(), 73.0 / 108.0);
        dueRatio("ratio() of a full column", full().ratio(), (18.0 + 742.0 + 567.0) / 1728.0);
        dueRatio("the least ratio()", equalRowsIn32().ratio(), 54.0 / 1728.0);
        ColumnChooser x = segmentOf(5);
        x.use(0, RUNS);
        dueRatio("the greatest ratio()", x.ratio(), 24.0 / 18.0);
        x.cut(1);
        dueRatio("ratio() when all rows are cut", x.ratio(), 1.0);
        due("bits of 1.0 and of ratio()", Double.doubleToRawLongBits(x.ratio()), Double.doubleToRawLongBits(1.0));
    }

    private static ColumnChooser equalRowsIn32() {
        ColumnChooser x = equalRows(96);
        x.setSegmentSize(32);
        x.choose();
        return x;
    }

    /** The checksum, without a wrap-around until its end. */
    private static long digestOf(Maker maker, int rows, int size, int price, int queries) {
        ColumnChooser x = maker.make();
        BigInteger d = BigInteger.valueOf(109);
        for (int number : new int[] {rows, size, price, queries}) {
            d = next(d, number);
        }
        int count = x.segmentCount();
        for (int k = 0; k < count; k++) {
            d = next(d, x.encoding(k));
            d = next(d, x.bitCount(k));
            for (char bit : bitsOf(maker, k).toCharArray()) {
                d = next(d, bit - '0');
            }
        }
        return d.longValue();
    }

    private static BigInteger next(BigInteger d, int number) {
        return d.multiply(BigInteger.valueOf(31)).add(BigInteger.valueOf(number));
    }

    private static void digest() {
        says(26, "A number d starts with 109; for each of the following numbers x, d becomes d * 31 + x, which wraps"
            + " around as a 64-bit integer: the number of rows, the segment size, the price of a bit, the number of"
            + " queries; for each segment its encoding, the number of its bits, and these.");
        leads(26, "Computes a checksum.");
        ColumnChooser x = new ColumnChooser();
        due("digest() of no rows", x.digest(), (((109L * 31) * 31 + 16) * 31 + 1) * 31);
        x.setSegmentSize(32);
        x.setPrice(0);
        x.addQuery(POINT, 0, 0, 1);
        due("digest() of no rows", x.digest(), ((109L * 31 * 31 + 32) * 31) * 31 + 1);
        // 18 bits and six numbers more are enough to wrap around; it may be below 0.
        ColumnChooser one = segmentOf(5);
        due("digest() of one row", one.digest(), digestOf(() -> one, 1, 32, 1, 0));
        boolean negative = false;
        boolean positive = false;
        for (int value = -100000; value <= 100000; value += 10000) {
            ColumnChooser y = segmentOf(value);
            due("digest() of the row " + value, y.digest(), digestOf(() -> y, 1, 32, 1, 0));
            negative |= y.digest() < 0;
            positive |= y.digest() > 0;
        }
        due("a digest below 0 and one above, of 2", (negative ? 1 : 0) + (positive ? 1 : 0), 2);
        due("digest() of two segments", few().digest(), digestOf(Sentences::few, 6, 4, 3, 3));

        says(26, "Returns d.");
        due("digest() of a full column", full().digest(), digestOf(Sentences::full, 96, 32, 100, 20));
        due("digest() of 24 segments", constants(24).digest(), digestOf(() -> constants(24), 96, 4, 1, 0));
        ColumnChooser cut = full();
        cut.cut(96);
        due("digest() when all rows are cut", cut.digest(),
            (((109L * 31 + 0) * 31 + 32) * 31 + 100) * 31 + 20);
    }
}
