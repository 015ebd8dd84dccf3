import java.util.ArrayList;
import java.util.Arrays;
import java.util.List;
import java.util.Random;
import java.util.TreeSet;

/**
 * Runs of calls, drawn with fixed seeds, on the class and on a plain model of the document.
 * Every answer, every exception's exact class, and the digest after each call must agree.
 */
public final class ModelTests {
    private static final int RUNS = 160;
    // With a digest after each call, and the whole state at the end, these are less than 512 calls.
    private static final int CALLS = 190;
    private static final int[] WILD = {Integer.MIN_VALUE, Integer.MIN_VALUE + 1, -100001, -100000, -33, -1, 0, 1, 3, 4,
        5, 6, 15, 16, 19, 20, 23, 24, 31, 32, 33, 95, 96, 97, 100, 101, 99999, 100000, 100001, 131072,
        Integer.MAX_VALUE - 1, Integer.MAX_VALUE};

    // What the runs must meet for each call, that they may not pass by testing little:
    // a for answers, i, x and s for IllegalArgument-, IndexOutOfBounds- and IllegalStateException.
    private static final String[] DUE_OUTCOMES = {"ais", "ais", "aix", "ai", "a", "ax", "ai", "a", "ais", "a", "ai",
        "ax", "ax", "ax", "ax", "a", "aix", "ax", "ax", "ax", "a", "a", "a", "a", "a"};

    private static final TreeSet<String> met = new TreeSet<>();
    private static int wrong = 0;

    /** The one argument that may be given is another number of runs. */
    public static void main(String[] args) {
        int runs = args.length > 0 ? Integer.parseInt(args[0]) : RUNS;
        for (int run = 0; run < runs && wrong == 0; run++) {
            new Run(run).go();
        }
        checkOutcomes();
        sweepSmallColumns();
        System.out.println(wrong == 0 ? "the class agrees with the model" : wrong + " answers do not agree");
        if (wrong != 0) {
            System.exit(1);
        }
    }

    private static void fail(String text) {
        wrong++;
        if (wrong < 20) {
            System.out.println(text);
        }
    }

    private static void checkOutcomes() {
        for (int call = 0; call < DUE_OUTCOMES.length; call++) {
            for (char outcome : DUE_OUTCOMES[call].toCharArray()) {
                if (!met.contains(call + " " + outcome)) {
                    fail("no run met outcome " + outcome + " of call " + call);
                }
            }
        }
    }

    private static char outcomeOf(String answer) {
        switch (answer) {
            case "throws.java.lang.IllegalArgumentException": return 'i';
            case "throws.java.lang.IndexOutOfBoundsException": return 'x';
            case "throws.java.lang.IllegalStateException": return 's';
            default: return 'a';
        }
    }

    // All columns of up to four rows over a few values, in every encoding.
    private static void sweepSmallColumns() {
        int[] values = {-100000, -1, 0, 1, 100000};
        for (int m = 1; m <= 4; m++) {
            int all = (int) Math.round(Math.pow(values.length, m));
            for (int n = 0; n < all && wrong == 0; n++) {
                ColumnChooser x = new ColumnChooser();
                Model model = new Model();
                int rest = n;
                for (int i = 0; i < m; i++) {
                    x.append(values[rest % values.length], 1);
                    model.append(values[rest % values.length], 1);
                    rest /= values.length;
                }
                for (int e = 0; e <= 5; e++) {
                    if (model.sizeWith(0, e) >= 0) {
                        x.use(0, e);
                        model.use(0, e);
                    }
                    compareState("small column " + n + " of " + m, x, model);
                }
            }
        }
    }

    private static void compareDigest(String where, ColumnChooser x, Model m) {
        long due = m.digest();
        long got = x.digest();
        if (got != due) {
            fail(where + ": digest " + got + ", due is " + due);
        }
    }

    private static void compareState(String where, ColumnChooser x, Model m) {
        compareDigest(where, x, m);
        if (x.rows() != m.column.size() || x.segmentCount() != m.segmentCount() || x.size() != m.size()) {
            fail(where + ": rows, segmentCount or size");
        }
        for (int i = 0; i < m.column.size() && wrong == 0; i++) {
            if (x.value(i) != m.column.get(i)) {
                fail(where + ": value(" + i + ") " + x.value(i) + ", due is " + m.column.get(i));
            }
        }
        for (int q = 0; q < m.queries.size() && wrong == 0; q++) {
            if (x.answer(q) != m.answer(q)) {
                fail(where + ": answer(" + q + ") " + x.answer(q) + ", due is " + m.answer(q));
            }
        }
    }

    private static final class Run {
        private final Random random;
        private final int run;
        private final int wildness;
        private final int spread;
        private final ColumnChooser x = new ColumnChooser();
        private final Model model = new Model();

        Run(int run) {
            this.run = run;
            random = new Random(7919L * run + 17);
            wildness = run % 5 == 0 ? 2 : 12;
            spread = new int[] {1, 2, 8, 100, 5000, 200000}[run % 6];
        }

        private int pick(int from, int to) {
            if (random.nextInt(wildness * 4) == 0) {
                return WILD[random.nextInt(WILD.length)];
            }
            return from + random.nextInt(to - from + 1);
        }

        private int pickValue() {
            if (!model.column.isEmpty() && random.nextInt(3) == 0) {
                return model.column.get(random.nextInt(model.column.size()));
            }
            return pick(Math.max(-100000, -spread / 2), Math.min(100000, spread - spread / 2));
        }

        void go() {
            for (int call = 0; call < CALLS && wrong == 0; call++) {
                int[] a = draw();
                String due = answerOf(a, null, model);
                String got = answerOf(a, x, null);
                met.add(a[0] + " " + outcomeOf(due));
                String where = "run " + run + " call " + call + " " + Arrays.toString(a);
                if (!got.equals(due)) {
                    fail(where + ": answered " + got + ", due is " + due);
                }
                compareDigest(where, x, model);
            }
            if (wrong == 0) {
                compareState("run " + run + " at its end", x, model);
            }
        }

        private int[] draw() {
            int segment = pick(0, Math.max(0, model.segmentCount() - 1));
            int row = pick(0, Math.max(0, model.column.size() - 1));
            int query = pick(0, Math.max(0, model.queries.size() - 1));
            int encoding = pick(0, 5);
            int which = random.nextInt(33);
            switch (which) {
                case 0: case 26: return new int[] {0, pickValue(), pick(1, random.nextInt(4) == 0 ? 40 : 6)};
                case 1: return new int[] {1, pickValue(), pick(-spread / 8 - 1, spread / 8 + 1), pick(1, 12)};
                case 2: case 27: return new int[] {2, row, pickValue()};
                case 3: return new int[] {3, random.nextInt(3) == 0 ? pick(0, 96) : pick(0, 9)};
                case 5: return new int[] {5, row};
                case 6: return new int[] {6, random.nextInt(3) == 0 ? pick(4, 32) : model.segmentSize};
                case 8: case 28: return drawQuery();
                case 9: return new int[] {random.nextInt(6) == 0 ? 9 : 4};
                case 10: return new int[] {10, pick(0, 100)};
                case 11: return new int[] {11, query};
                case 12: return new int[] {12, segment, encoding};
                case 13: case 29: return new int[] {13, query, segment, encoding};
                case 14: return new int[] {14, segment, encoding};
                case 16: case 30: case 31: case 32: return new int[] {16, segment, encoding};
                case 17: return new int[] {17, segment};
                case 18: return new int[] {18, segment};
                case 19: return new int[] {19, segment, pick(0, 300)};
                default: return new int[] {which > 24 ? 15 : which};
            }
        }

        private int[] drawQuery() {
            int kind = pick(0, 2);
            int weight = pick(1, 100);
            if (kind == 1) {
                int a = pick(0, 95);
                return new int[] {8, kind, a, pick(Math.min(Math.max(a, 0), 96), 96), weight};
            }
            return new int[] {8, kind, kind == 0 ? pick(0, 95) : pickValue(), pick(-5, 105), weight};
        }
    }

    private static String answerOf(int[] a, ColumnChooser x, Model m) {
        try {
            return x != null ? callClass(a, x) : callModel(a, m);
        } catch (RuntimeException e) {
            return "throws." + e.getClass().getName();
        }
    }

    private static String callClass(int[] a, ColumnChooser x) {
        switch (a[0]) {
            case 0: return "" + x.append(a[1], a[2]);
            case 1: return "" + x.climb(a[1], a[2], a[3]);
            case 2: return "" + x.set(a[1], a[2]);
            case 3: return "" + x.cut(a[1]);
            case 4: return "" + x.rows();
            case 5: return "" + x.value(a[1]);
            case 6: return "" + x.setSegmentSize(a[1]);
            case 7: return "" + x.segmentCount();
            case 8: return "" + x.addQuery(a[1], a[2], a[3], a[4]);
            case 9: return "" + x.clearQueries();
            case 10: return "" + x.setPrice(a[1]);
            case 11: return "" + x.answer(a[1]);
            case 12: return "" + x.sizeWith(a[1], a[2]);
            case 13: return "" + x.costWith(a[1], a[2], a[3]);
            case 14: return "" + x.scoreWith(a[1], a[2]);
            case 15: return "" + x.choose();
            case 16: return "" + x.use(a[1], a[2]);
            case 17: return "" + x.encoding(a[1]);
            case 18: return "" + x.bitCount(a[1]);
            case 19: return "" + x.bit(a[1], a[2]);
            case 20: return "" + x.size();
            case 21: return "" + x.score();
            case 22: return "" + x.bestSegmentSize();
            case 23: return "" + x.ratio();
            default: return "" + x.digest();
        }
    }

    private static String callModel(int[] a, Model m) {
        switch (a[0]) {
            case 0: return "" + m.append(a[1], a[2]);
            case 1: return "" + m.climb(a[1], a[2], a[3]);
            case 2: return "" + m.set(a[1], a[2]);
            case 3: return "" + m.cut(a[1]);
            case 4: return "" + m.column.size();
            case 5: return "" + m.value(a[1]);
            case 6: return "" + m.setSegmentSize(a[1]);
            case 7: return "" + m.segmentCount();
            case 8: return "" + m.addQuery(a[1], a[2], a[3], a[4]);
            case 9: return "" + m.clearQueries();
            case 10: return "" + m.setPrice(a[1]);
            case 11: return "" + m.answer(a[1]);
            case 12: return "" + m.sizeWith(a[1], a[2]);
            case 13: return "" + m.costWith(a[1], a[2], a[3]);
            case 14: return "" + m.scoreWith(a[1], a[2]);
            case 15: return "" + m.choose();
            case 16: return "" + m.use(a[1], a[2]);
            case 17: return "" + m.encoding(a[1]);
            case 18: return "" + m.bitsOf(m.inSegment(a[1]), m.encoding(a[1])).length();
            case 19: return "" + m.bit(a[1], a[2]);
            case 20: return "" + m.size();
            case 21: return "" + m.score();
            case 22: return "" + m.bestSegmentSize();
            case 23: return "" + m.ratio();
            default: return "" + m.digest();
        }
    }

    /** The document, told again with values, lists and texts of bits; it keeps no bits. */
    private static final class Model {
        private final List<Integer> column = new ArrayList<>();
        private final List<int[]> queries = new ArrayList<>();
        private int segmentSize = 16;
        private int price = 1;
        private int[] encodings = new int[0];

        private static void index(boolean fine) {
            if (!fine) {
                throw new IndexOutOfBoundsException();
            }
        }

        private static void argument(boolean fine) {
            if (!fine) {
                throw new IllegalArgumentException();
            }
        }

        private static void state(boolean fine) {
            if (!fine) {
                throw new IllegalStateException();
            }
        }

        private static boolean in(long x, long from, long to) {
            return from <= x && x <= to;
        }

        // Gives PLAIN to the segments that had or have one of the rows from this one on.
        private void plainFrom(int row) {
            encodings = Arrays.copyOf(encodings, segmentCount());
            for (int k = 0; k < encodings.length; k++) {
                if ((k + 1) * segmentSize > row) {
                    encodings[k] = 0;
                }
            }
        }

        int append(int value, int many) {
            argument(in(value, -100000, 100000) && in(many, 1, 96));
            state(column.size() + many <= 96);
            int before = column.size();
            for (int i = 0; i < many; i++) {
                column.add(value);
            }
            plainFrom(before);
            return column.size();
        }

        int climb(int first, int step, int many) {
            argument(in(many, 1, 96));
            List<Integer> more = new ArrayList<>();
            for (long i = 0; i < many; i++) {
                long v = first + i * step;
                argument(in(v, -100000, 100000));
                more.add((int) v);
            }
            state(column.size() + many <= 96);
            int before = column.size();
            column.addAll(more);
            plainFrom(before);
            return column.size();
        }

        int set(int row, int value) {
            index(in(row, 0, column.size() - 1));
            argument(in(value, -100000, 100000));
            encodings[row / segmentSize] = 0;
            return column.set(row, value);
        }

        int cut(int many) {
            argument(in(many, 0, column.size()));
            if (many > 0) {
                column.subList(column.size() - many, column.size()).clear();
                plainFrom(column.size());
            }
            return column.size();
        }

        int value(int row) {
            index(in(row, 0, column.size() - 1));
            return column.get(row);
        }

        int setSegmentSize(int size) {
            argument(in(size, 4, 32));
            int before = segmentSize;
            if (size != before) {
                segmentSize = size;
                plainFrom(0);
            }
            return before;
        }

        int segmentCount() {
            return (int) Math.ceil(column.size() / (double) segmentSize);
        }

        int addQuery(int kind, int a, int b, int weight) {
            argument(in(kind, 0, 2) && in(weight, 1, 100));
            argument(kind != 0 || in(a, 0, 95));
            argument(kind != 1 || (a >= 0 && b <= 96 && a < b));
            argument(kind != 2 || in(a, -100000, 100000));
            state(queries.size() < 20);
            queries.add(new int[] {kind, a, b, weight});
            return queries.size() - 1;
        }

        int clearQueries() {
            int before = queries.size();
            queries.clear();
            return before;
        }

        int setPrice(int next) {
            argument(in(next, 0, 100));
            int before = price;
            price = next;
            return before;
        }

        long answer(int query) {
            index(in(query, 0, queries.size() - 1));
            int[] q = queries.get(query);
            long answer = 0;
            for (int row = 0; row < column.size(); row++) {
                int v = column.get(row);
                if (q[0] == 0 && row == q[1] || q[0] == 1 && q[1] <= row && row < q[2]) {
                    answer += v;
                }
                if (q[0] == 2 && v == q[1]) {
                    answer++;
                }
            }
            return answer;
        }

        List<Integer> inSegment(int k) {
            index(in(k, 0, segmentCount() - 1));
            return part(k, segmentSize);
        }

        private List<Integer> part(int k, int size) {
            return column.subList(k * size, Math.min(column.size(), (k + 1) * size));
        }

        private static int width(int number) {
            return number == 0 ? 0 : Integer.toBinaryString(number).length();
        }

        private static String binary(int number, int width) {
            StringBuilder text = new StringBuilder();
            for (int i = 0; i < width; i++) {
                text.insert(0, number % 2);
                number /= 2;
            }
            return text.toString();
        }

        private static String written(int value) {
            return binary(value + 131072, 18);
        }

        private static int folded(int x) {
            return x >= 0 ? 2 * x : -2 * x - 1;
        }

        // The bits; null if the encoding is not possible.
        String bitsOf(List<Integer> v, int encoding) {
            TreeSet<Integer> set = new TreeSet<>(v);
            List<Integer> list = new ArrayList<>(set);
            StringBuilder text = new StringBuilder();
            if (encoding == 0) {
                for (int x : v) {
                    text.append(written(x));
                }
            } else if (encoding == 1) {
                return set.size() > 1 ? null : written(v.get(0));
            } else if (encoding == 2) {
                for (int i = 0; i < v.size(); ) {
                    int n = 1;
                    while (i + n < v.size() && v.get(i + n).equals(v.get(i))) {
                        n++;
                    }
                    text.append(written(v.get(i))).append(binary(n, 6));
                    i += n;
                }
            } else if (encoding == 3) {
                text.append(binary(list.size(), 6));
                for (int x : list) {
                    text.append(written(x));
                }
                for (int x : v) {
                    text.append(binary(list.indexOf(x), width(list.size() - 1)));
                }
            } else if (encoding == 4) {
                int w = width(set.last() - set.first());
                text.append(written(set.first())).append(binary(w, 5));
                for (int x : v) {
                    text.append(binary(x - set.first(), w));
                }
            } else {
                int w = 0;
                for (int i = 1; i < v.size(); i++) {
                    w = Math.max(w, width(folded(v.get(i) - v.get(i - 1))));
                }
                text.append(written(v.get(0))).append(binary(w, 5));
                for (int i = 1; i < v.size(); i++) {
                    text.append(binary(folded(v.get(i) - v.get(i - 1)), w));
                }
            }
            return text.toString();
        }

        private static int runs(List<Integer> v, int upTo) {
            int runs = 0;
            for (int i = 0; i <= upTo; i++) {
                if (i == 0 || !v.get(i).equals(v.get(i - 1))) {
                    runs++;
                }
            }
            return runs;
        }

        private static int cost(int[] q, List<Integer> v, int firstRow, int encoding) {
            TreeSet<Integer> set = new TreeSet<>(v);
            int m = v.size();
            if (q[0] == 0) {
                int j = q[1] - firstRow;
                if (j < 0 || j >= m) {
                    return 0;
                }
                return new int[] {1, 1, 1 + runs(v, j), 2, 2, j + 1}[encoding];
            }
            if (q[0] == 1) {
                int f = -1;
                int l = -1;
                for (int i = 0; i < m; i++) {
                    if (q[1] <= firstRow + i && firstRow + i < q[2]) {
                        f = f < 0 ? i : f;
                        l = i;
                    }
                }
                if (f < 0) {
                    return 0;
                }
                return new int[] {l - f + 1, 1, 1 + runs(v, l), l - f + 1 + set.size(), l - f + 2, l + 1}[encoding];
            }
            long end = set.first() + (1L << width(set.last() - set.first()));
            int frame = 1 + (q[1] >= set.first() && q[1] < end ? m : 0);
            int dictionary = set.size() + (set.contains(q[1]) ? m : 0);
            return new int[] {m, 1, runs(v, m - 1) + 1, dictionary, frame, m}[encoding];
        }

        private int scoreOf(List<Integer> v, int firstRow, int encoding) {
            String bits = bitsOf(v, encoding);
            if (bits == null) {
                return -1;
            }
            int score = price * bits.length();
            for (int[] q : queries) {
                score += q[3] * cost(q, v, firstRow, encoding);
            }
            return score;
        }

        private int best(List<Integer> v, int firstRow) {
            int best = 0;
            for (int e = 1; e <= 5; e++) {
                int score = scoreOf(v, firstRow, e);
                if (score >= 0 && score < scoreOf(v, firstRow, best)) {
                    best = e;
                }
            }
            return best;
        }

        int sizeWith(int k, int encoding) {
            index(in(k, 0, segmentCount() - 1) && in(encoding, 0, 5));
            String bits = bitsOf(inSegment(k), encoding);
            return bits == null ? -1 : bits.length();
        }

        int costWith(int query, int k, int encoding) {
            index(in(query, 0, queries.size() - 1) && in(k, 0, segmentCount() - 1) && in(encoding, 0, 5));
            if (bitsOf(inSegment(k), encoding) == null) {
                return -1;
            }
            return cost(queries.get(query), inSegment(k), k * segmentSize, encoding);
        }

        int scoreWith(int k, int encoding) {
            index(in(k, 0, segmentCount() - 1) && in(encoding, 0, 5));
            return scoreOf(inSegment(k), k * segmentSize, encoding);
        }

        int choose() {
            int changed = 0;
            for (int k = 0; k < segmentCount(); k++) {
                int best = best(inSegment(k), k * segmentSize);
                changed += best != encodings[k] ? 1 : 0;
                encodings[k] = best;
            }
            return changed;
        }

        int use(int k, int encoding) {
            index(in(k, 0, segmentCount() - 1) && in(encoding, 0, 5));
            argument(bitsOf(inSegment(k), encoding) != null);
            int before = encodings[k];
            encodings[k] = encoding;
            return before;
        }

        int encoding(int k) {
            index(in(k, 0, segmentCount() - 1));
            return encodings[k];
        }

        int bit(int k, int i) {
            String bits = bitsOf(inSegment(k), encoding(k));
            index(in(i, 0, bits.length() - 1));
            return bits.charAt(i) - '0';
        }

        int size() {
            int sum = 0;
            for (int k = 0; k < segmentCount(); k++) {
                sum += bitsOf(inSegment(k), encodings[k]).length();
            }
            return sum;
        }

        int score() {
            int sum = 0;
            for (int k = 0; k < segmentCount(); k++) {
                sum += scoreOf(inSegment(k), k * segmentSize, encodings[k]);
            }
            return sum;
        }

        int bestSegmentSize() {
            int best = 0;
            int least = Integer.MAX_VALUE;
            for (int size = 4; size <= 32; size++) {
                int sum = 0;
                for (int k = 0; k * size < column.size(); k++) {
                    List<Integer> v = part(k, size);
                    sum += scoreOf(v, k * size, best(v, k * size));
                }
                if (sum < least) {
                    least = sum;
                    best = size;
                }
            }
            return best;
        }

        double ratio() {
            return column.isEmpty() ? 1.0 : (double) size() / (18 * column.size());
        }

        long digest() {
            long d = 109;
            for (int x : new int[] {column.size(), segmentSize, price, queries.size()}) {
                d = d * 31 + x;
            }
            for (int k = 0; k < segmentCount(); k++) {
                String bits = bitsOf(inSegment(k), encodings[k]);
                d = d * 31 + encodings[k];
                d = d * 31 + bits.length();
                for (char bit : bits.toCharArray()) {
                    d = d * 31 + (bit - '0');
                }
            }
            return d;
        }
    }
}
