/**
 * A chooser of encodings for a column of integers. The column is cut into
 * segments; a segment is kept as the bits of its encoding and as nothing else.
 */
public final class ColumnChooser {
    private static final int MOST_ROWS = 96;
    private static final int GREATEST_VALUE = 100000;
    private static final int SMALLEST_SEGMENT = 4;
    private static final int LARGEST_SEGMENT = 32;
    private static final int FIRST_SEGMENT_SIZE = 16;
    private static final int MOST_SEGMENTS = 24;
    private static final int MOST_QUERIES = 20;
    private static final int GREATEST_WEIGHT = 100;
    private static final int GREATEST_PRICE = 100;

    private static final int PLAIN = 0;
    private static final int CONSTANT = 1;
    private static final int RUNS = 2;
    private static final int DICTIONARY = 3;
    private static final int FRAME = 4;
    private static final int DELTA = 5;
    private static final int IMPOSSIBLE = -1;

    private static final int POINT = 0;
    private static final int SUM = 1;
    private static final int COUNT = 2;

    private static final int VALUE_BITS = 18;
    private static final int VALUE_OFFSET = 131072;
    private static final int NUMBER_BITS = 6;
    private static final int WIDTH_BITS = 5;
    private static final int MOST_WIDTH = 30;

    // RUNS takes 24 bits for a row at most. The others take no more than that
    // in segments of four rows, and a segment has room for four rows or more.
    private static final int ROOM_OF_ROW = 24;
    private static final int ROOM = (MOST_ROWS + LARGEST_SEGMENT) * ROOM_OF_ROW;

    private static final long DIGEST_START = 109L;
    private static final long DIGEST_FACTOR = 31L;

    private int rowCount;
    private int segmentSize;
    private int price;
    private final Trace trace;
    private final Row encodings;
    private final Row bitCounts;
    private final Bits bits;
    // Values are put here for the length of one call; between calls only the bits count.
    private final Row column;
    private final Profile profile;
    private final Coder coder;

    public ColumnChooser() {
        rowCount = 0;
        segmentSize = FIRST_SEGMENT_SIZE;
        price = 1;
        trace = new Trace();
        encodings = new Row(MOST_SEGMENTS);
        bitCounts = new Row(MOST_SEGMENTS);
        bits = new Bits();
        column = new Row(MOST_ROWS);
        profile = new Profile(column);
        coder = new Coder(column, profile, bits);
    }

    public int append(int value, int many) throws IllegalArgumentException, IllegalStateException {
        return climb(value, 0, many);
    }

    public int climb(int first, int step, int many) throws IllegalArgumentException, IllegalStateException {
        if (!isRowNumber(many) || !isValue(first) || !isValue(lastOfClimb(first, step, many))) {
            throw new IllegalArgumentException("a value or many is out of its range");
        }
        if (rowCount + many > MOST_ROWS) {
            throw new IllegalStateException("more than 96 rows");
        }
        int firstChanged = segmentOf(rowCount);
        // Only a segment that has rows already has bits to be read.
        if (firstChanged < segmentCount()) {
            load(firstChanged);
        }
        for (int i = 0; i < many; i++) {
            column.put(rowCount + i, first + i * step);
        }
        rowCount += many;
        int count = segmentCount();
        for (int segment = firstChanged; segment < count; segment++) {
            store(segment, PLAIN);
        }
        return rowCount;
    }

    public int set(int row, int value) throws IndexOutOfBoundsException, IllegalArgumentException {
        checkRow(row);
        if (!isValue(value)) {
            throw new IllegalArgumentException("value is out of its range");
        }
        int segment = segmentOf(row);
        load(segment);
        int before = column.get(row);
        column.put(row, value);
        store(segment, PLAIN);
        return before;
    }

    public int cut(int many) throws IllegalArgumentException {
        if (many < 0 || many > rowCount) {
            throw new IllegalArgumentException("many is not 0 to the number of rows");
        }
        if (many > 0) {
            int segment = segmentOf(rowCount - many);
            load(segment);
            rowCount -= many;
            // A cut at a segment's edge leaves nothing of the segment behind it.
            if (segment < segmentCount()) {
                store(segment, PLAIN);
            }
        }
        return rowCount;
    }

    public int rows() {
        return rowCount;
    }

    public int value(int row) throws IndexOutOfBoundsException {
        checkRow(row);
        load(segmentOf(row));
        return column.get(row);
    }

    public int setSegmentSize(int size) throws IllegalArgumentException {
        if (size < SMALLEST_SEGMENT || size > LARGEST_SEGMENT) {
            throw new IllegalArgumentException("size is not 4 to 32");
        }
        int before = segmentSize;
        if (size != before) {
            loadColumn();
            segmentSize = size;
            int count = segmentCount();
            for (int segment = 0; segment < count; segment++) {
                store(segment, PLAIN);
            }
        }
        return before;
    }

    public int segmentCount() {
        return segmentOf(rowCount + segmentSize - 1);
    }

    public int addQuery(int kind, int a, int b, int weight) throws IllegalArgumentException, IllegalStateException {
        if (!isQuery(kind, a, b) || weight < 1 || weight > GREATEST_WEIGHT) {
            throw new IllegalArgumentException("no such query can be");
        }
        if (trace.count() >= MOST_QUERIES) {
            throw new IllegalStateException("there are 20 queries");
        }
        return trace.add(kind, a, b, weight);
    }

    public int clearQueries() {
        return trace.clear();
    }

    public int setPrice(int price) throws IllegalArgumentException {
        if (price < 0 || price > GREATEST_PRICE) {
            throw new IllegalArgumentException("price is not 0 to 100");
        }
        int before = this.price;
        this.price = price;
        return before;
    }

    public long answer(int query) throws IndexOutOfBoundsException {
        checkQuery(query);
        int a = trace.aOf(query);
        loadColumn();
        switch (trace.kindOf(query)) {
            case POINT:
                return a < rowCount ? column.get(a) : 0;
            case SUM:
                return sumOfRows(a, Math.min(trace.bOf(query), rowCount));
            default:
                return rowsWith(a);
        }
    }

    public int sizeWith(int segment, int encoding) throws IndexOutOfBoundsException {
        checkSegment(segment);
        checkEncoding(encoding);
        study(segment);
        return profile.sizeOf(encoding);
    }

    public int costWith(int query, int segment, int encoding) throws IndexOutOfBoundsException {
        checkQuery(query);
        checkSegment(segment);
        checkEncoding(encoding);
        study(segment);
        return profile.isPossible(encoding) ? profile.costOf(trace, query, encoding) : IMPOSSIBLE;
    }

    public int scoreWith(int segment, int encoding) throws IndexOutOfBoundsException {
        checkSegment(segment);
        checkEncoding(encoding);
        study(segment);
        return profile.isPossible(encoding) ? scoreOf(encoding) : IMPOSSIBLE;
    }

    public int choose() {
        int changed = 0;
        int count = segmentCount();
        for (int segment = 0; segment < count; segment++) {
            study(segment);
            int best = bestEncoding();
            if (best != encodings.get(segment)) {
                store(segment, best);
                changed++;
            }
        }
        return changed;
    }

    public int use(int segment, int encoding) throws IndexOutOfBoundsException, IllegalArgumentException {
        checkSegment(segment);
        checkEncoding(encoding);
        study(segment);
        if (!profile.isPossible(encoding)) {
            throw new IllegalArgumentException("the encoding is not possible");
        }
        int before = encodings.get(segment);
        store(segment, encoding);
        return before;
    }

    public int encoding(int segment) throws IndexOutOfBoundsException {
        checkSegment(segment);
        return encodings.get(segment);
    }

    public int bitCount(int segment) throws IndexOutOfBoundsException {
        checkSegment(segment);
        return bitCounts.get(segment);
    }

    public int bit(int segment, int index) throws IndexOutOfBoundsException {
        checkSegment(segment);
        if (index < 0 || index >= bitCounts.get(segment)) {
            throw new IndexOutOfBoundsException("no such bit");
        }
        return bits.bitAt(startOf(segment) + index);
    }

    public int size() {
        int sum = 0;
        int count = segmentCount();
        for (int segment = 0; segment < count; segment++) {
            sum += bitCounts.get(segment);
        }
        return sum;
    }

    public int score() {
        int sum = 0;
        int count = segmentCount();
        for (int segment = 0; segment < count; segment++) {
            study(segment);
            sum += scoreOf(encodings.get(segment));
        }
        return sum;
    }

    public int bestSegmentSize() {
        loadColumn();
        int best = SMALLEST_SEGMENT;
        int least = scoreIfChosen(SMALLEST_SEGMENT);
        for (int size = SMALLEST_SEGMENT + 1; size <= LARGEST_SEGMENT; size++) {
            int sum = scoreIfChosen(size);
            if (sum < least) {
                least = sum;
                best = size;
            }
        }
        return best;
    }

    public double ratio() {
        int plain = rowCount * VALUE_BITS;
        return plain > 0 ? (double) size() / (double) plain : 1.0;
    }

    public long digest() {
        long d = DIGEST_START;
        d = d * DIGEST_FACTOR + rowCount;
        d = d * DIGEST_FACTOR + segmentSize;
        d = d * DIGEST_FACTOR + price;
        d = d * DIGEST_FACTOR + trace.count();
        int count = segmentCount();
        for (int segment = 0; segment < count; segment++) {
            d = digestOf(segment, d);
        }
        return d;
    }

    private long digestOf(int segment, long before) {
        int start = startOf(segment);
        int count = bitCounts.get(segment);
        long d = before * DIGEST_FACTOR + encodings.get(segment);
        d = d * DIGEST_FACTOR + count;
        for (int i = 0; i < count; i++) {
            d = d * DIGEST_FACTOR + bits.bitAt(start + i);
        }
        return d;
    }

    private static boolean isValue(long number) {
        return number >= -GREATEST_VALUE && number <= GREATEST_VALUE;
    }

    private static boolean isRowNumber(int many) {
        return many >= 1 && many <= MOST_ROWS;
    }

    // A climb goes one way, so that its first and last value bound all others.
    private static long lastOfClimb(int first, int step, int many) {
        return first + (long) step * (many - 1);
    }

    private static boolean isQuery(int kind, int a, int b) {
        switch (kind) {
            case POINT:
                return a >= 0 && a < MOST_ROWS;
            case SUM:
                return a >= 0 && b <= MOST_ROWS && a < b;
            case COUNT:
                return isValue(a);
            default:
                return false;
        }
    }

    private void checkRow(int row) throws IndexOutOfBoundsException {
        if (row < 0 || row >= rowCount) {
            throw new IndexOutOfBoundsException("no such row");
        }
    }

    private void checkQuery(int query) throws IndexOutOfBoundsException {
        if (query < 0 || query >= trace.count()) {
            throw new IndexOutOfBoundsException("no such query");
        }
    }

    private void checkSegment(int segment) throws IndexOutOfBoundsException {
        if (segment < 0 || segment >= segmentCount()) {
            throw new IndexOutOfBoundsException("no such segment");
        }
    }

    private static void checkEncoding(int encoding) throws IndexOutOfBoundsException {
        if (encoding < PLAIN || encoding > DELTA) {
            throw new IndexOutOfBoundsException("encoding is not 0 to 5");
        }
    }

    private int segmentOf(int row) {
        return segmentSize > 0 ? row / segmentSize : 0;
    }

    private int firstRowOf(int segment) {
        return segment * segmentSize;
    }

    private int rowsIn(int segment) {
        return Math.min(segmentSize, rowCount - firstRowOf(segment));
    }

    private int startOf(int segment) {
        return firstRowOf(segment) * ROOM_OF_ROW;
    }

    private void load(int segment) {
        bits.moveTo(startOf(segment));
        coder.unpack(encodings.get(segment), firstRowOf(segment), rowsIn(segment));
    }

    private void loadColumn() {
        int count = segmentCount();
        for (int segment = 0; segment < count; segment++) {
            load(segment);
        }
    }

    private void study(int segment) {
        load(segment);
        profile.study(firstRowOf(segment), rowsIn(segment));
    }

    private void store(int segment, int encoding) {
        profile.study(firstRowOf(segment), rowsIn(segment));
        bits.moveTo(startOf(segment));
        coder.pack(encoding, firstRowOf(segment), rowsIn(segment));
        encodings.put(segment, encoding);
        bitCounts.put(segment, profile.sizeOf(encoding));
    }

    private long sumOfRows(int from, int to) {
        long sum = 0L;
        for (int row = from; row < to; row++) {
            sum += column.get(row);
        }
        return sum;
    }

    private long rowsWith(int value) {
        long many = 0L;
        for (int row = 0; row < rowCount; row++) {
            if (column.get(row) == value) {
                many++;
            }
        }
        return many;
    }

    private int scoreOf(int encoding) {
        int sum = price * profile.sizeOf(encoding);
        int count = trace.count();
        for (int query = 0; query < count; query++) {
            sum += trace.weightOf(query) * profile.costOf(trace, query, encoding);
        }
        return sum;
    }

    private int bestEncoding() {
        int best = PLAIN;
        int least = scoreOf(PLAIN);
        for (int encoding = CONSTANT; encoding <= DELTA; encoding++) {
            if (profile.isPossible(encoding)) {
                int score = scoreOf(encoding);
                if (score < least) {
                    least = score;
                    best = encoding;
                }
            }
        }
        return best;
    }

    private int scoreIfChosen(int size) {
        int sum = 0;
        int from = 0;
        for (int segment = 0; segment < MOST_SEGMENTS && from < rowCount; segment++) {
            profile.study(from, Math.min(size, rowCount - from));
            sum += scoreOf(bestEncoding());
            from += size;
        }
        return sum;
    }

    /** A row of numbers whose indices are looked at, so that the machine never throws. */
    private static final class Row {
        private final int[] cells;

        Row(int length) {
            cells = new int[length > 0 ? length : 0];
        }

        int get(int index) {
            return index >= 0 && index < cells.length ? cells[index] : 0;
        }

        void put(int index, int number) {
            if (index >= 0 && index < cells.length) {
                cells[index] = number;
            }
        }

        /** Tells the index of a number among the first ones; -1 if it is not there. */
        int find(int number, int many) {
            for (int i = 0; i < many && i < cells.length; i++) {
                if (cells[i] == number) {
                    return i;
                }
            }
            return -1;
        }
    }

    /** The queries. */
    private static final class Trace {
        private final Row kinds;
        private final Row firsts;
        private final Row seconds;
        private final Row weights;
        private int count;

        Trace() {
            kinds = new Row(MOST_QUERIES);
            firsts = new Row(MOST_QUERIES);
            seconds = new Row(MOST_QUERIES);
            weights = new Row(MOST_QUERIES);
            count = 0;
        }

        int count() {
            return count;
        }

        int add(int kind, int a, int b, int weight) {
            int query = count;
            kinds.put(query, kind);
            firsts.put(query, a);
            seconds.put(query, b);
            weights.put(query, weight);
            count++;
            return query;
        }

        int clear() {
            int before = count;
            count = 0;
            return before;
        }

        int kindOf(int query) {
            return kinds.get(query);
        }

        int aOf(int query) {
            return firsts.get(query);
        }

        int bOf(int query) {
            return seconds.get(query);
        }

        int weightOf(int query) {
            return weights.get(query);
        }
    }

    /** The bits of all segments, one a cell, read and written from a place that moves on. */
    private static final class Bits {
        private final int[] cells;
        private int place;

        Bits() {
            cells = new int[ROOM];
            place = 0;
        }

        void moveTo(int index) {
            place = index;
        }

        int bitAt(int index) {
            return index >= 0 && index < cells.length ? cells[index] : 0;
        }

        void write(int number, int width) {
            for (int shift = width - 1; shift >= 0; shift--) {
                if (place >= 0 && place < cells.length) {
                    cells[place] = (number >> shift) & 1;
                }
                place++;
            }
        }

        int read(int width) {
            int number = 0;
            for (int i = 0; i < width; i++) {
                int bit = place >= 0 && place < cells.length ? cells[place] : 0;
                number = number * 2 + bit;
                place++;
            }
            return number;
        }
    }

    /** What sizes and costs depend on in some rows of the column that follow each other. */
    private static final class Profile {
        private final Row column;
        private final Row runsUpTo;
        private final Row different;
        private int firstRow;
        private int many;
        private int runCount;
        private int differentCount;
        private int least;
        private int indexWidth;
        private int frameWidth;
        private int deltaWidth;

        Profile(Row column) {
            this.column = column;
            runsUpTo = new Row(LARGEST_SEGMENT);
            different = new Row(LARGEST_SEGMENT);
        }

        void study(int firstRow, int many) {
            this.firstRow = firstRow;
            this.many = many;
            runCount = 0;
            differentCount = 0;
            int greatestFolded = 0;
            int before = 0;
            for (int i = 0; i < many; i++) {
                int value = column.get(firstRow + i);
                if (i == 0 || value != before) {
                    runCount++;
                    addDifferent(value);
                }
                if (i > 0) {
                    greatestFolded = Math.max(greatestFolded, fold(value - before));
                }
                runsUpTo.put(i, runCount);
                before = value;
            }
            least = different.get(0);
            indexWidth = widthOf(differentCount - 1);
            frameWidth = widthOf(different.get(differentCount - 1) - least);
            deltaWidth = widthOf(greatestFolded);
        }

        private void addDifferent(int value) {
            int less = 0;
            for (int i = 0; i < differentCount; i++) {
                if (different.get(i) < value) {
                    less++;
                }
            }
            if (less < differentCount && different.get(less) == value) {
                return;
            }
            for (int i = differentCount; i > less; i--) {
                different.put(i, different.get(i - 1));
            }
            different.put(less, value);
            differentCount++;
        }

        static int fold(int x) {
            return x >= 0 ? 2 * x : -2 * x - 1;
        }

        static int widthOf(int number) {
            int width = 0;
            while (width < MOST_WIDTH && number >= 1 << width) {
                width++;
            }
            return width;
        }

        int differentCount() {
            return differentCount;
        }

        int differentAt(int index) {
            return different.get(index);
        }

        int indexOf(int value) {
            return different.find(value, differentCount);
        }

        int indexWidth() {
            return indexWidth;
        }

        int least() {
            return least;
        }

        int frameWidth() {
            return frameWidth;
        }

        int deltaWidth() {
            return deltaWidth;
        }

        boolean isPossible(int encoding) {
            return encoding != CONSTANT || runCount == 1;
        }

        /** Tells the number of bits; IMPOSSIBLE if the encoding is not possible. */
        int sizeOf(int encoding) {
            switch (encoding) {
                case PLAIN:
                    return many * VALUE_BITS;
                case CONSTANT:
                    return isPossible(CONSTANT) ? VALUE_BITS : IMPOSSIBLE;
                case RUNS:
                    return runCount * (VALUE_BITS + NUMBER_BITS);
                case DICTIONARY:
                    return NUMBER_BITS + differentCount * VALUE_BITS + many * indexWidth;
                case FRAME:
                    return VALUE_BITS + WIDTH_BITS + many * frameWidth;
                default:
                    return VALUE_BITS + WIDTH_BITS + (many - 1) * deltaWidth;
            }
        }

        /** Tells the cost of a query with an encoding that is possible. */
        int costOf(Trace trace, int query, int encoding) {
            int a = trace.aOf(query);
            int first = Math.max(a - firstRow, 0);
            switch (trace.kindOf(query)) {
                case POINT:
                    return a < firstRow || first >= many ? 0 : costOfPoint(first, encoding);
                case SUM:
                    int last = Math.min(trace.bOf(query) - firstRow, many) - 1;
                    return first > last ? 0 : costOfSum(first, last, encoding);
                default:
                    return costOfCount(a, encoding);
            }
        }

        private int costOfPoint(int index, int encoding) {
            switch (encoding) {
                case PLAIN:
                case CONSTANT:
                    return 1;
                case RUNS:
                    return 1 + runsUpTo.get(index);
                case DICTIONARY:
                case FRAME:
                    return 2;
                default:
                    return index + 1;
            }
        }

        private int costOfSum(int first, int last, int encoding) {
            int length = last - first + 1;
            switch (encoding) {
                case PLAIN:
                    return length;
                case CONSTANT:
                    return 1;
                case RUNS:
                    return 1 + runsUpTo.get(last);
                case DICTIONARY:
                    return length + differentCount;
                case FRAME:
                    return length + 1;
                default:
                    return last + 1;
            }
        }

        private int costOfCount(int value, int encoding) {
            switch (encoding) {
                case CONSTANT:
                    return 1;
                case RUNS:
                    return runCount + 1;
                case DICTIONARY:
                    return differentCount + (different.find(value, differentCount) >= 0 ? many : 0);
                case FRAME:
                    return 1 + (isInFrame(value) ? many : 0);
                default:
                    return many;
            }
        }

        private boolean isInFrame(int value) {
            return value >= least && value < least + (1 << frameWidth);
        }
    }

    /** Turns rows of the column into bits, and back, from the place where the bits stand. */
    private static final class Coder {
        private final Row column;
        private final Profile profile;
        private final Bits bits;
        private final Row list;

        Coder(Row column, Profile profile, Bits bits) {
            this.column = column;
            this.profile = profile;
            this.bits = bits;
            list = new Row(LARGEST_SEGMENT);
        }

        /** Writes rows that the profile has studied. */
        void pack(int encoding, int firstRow, int many) {
            switch (encoding) {
                case PLAIN:
                    packPlain(firstRow, many);
                    break;
                case CONSTANT:
                    writeValue(column.get(firstRow));
                    break;
                case RUNS:
                    packRuns(firstRow, many);
                    break;
                case DICTIONARY:
                    packDictionary(firstRow, many);
                    break;
                case FRAME:
                    packFrame(firstRow, many);
                    break;
                default:
                    packDelta(firstRow, many);
                    break;
            }
        }

        private void packPlain(int firstRow, int many) {
            for (int i = 0; i < many; i++) {
                writeValue(column.get(firstRow + i));
            }
        }

        private void packRuns(int firstRow, int many) {
            int length = 0;
            for (int i = 0; i < many; i++) {
                int value = column.get(firstRow + i);
                length++;
                if (i + 1 == many || column.get(firstRow + i + 1) != value) {
                    writeValue(value);
                    bits.write(length, NUMBER_BITS);
                    length = 0;
                }
            }
        }

        private void packDictionary(int firstRow, int many) {
            int count = profile.differentCount();
            bits.write(count, NUMBER_BITS);
            for (int i = 0; i < count; i++) {
                writeValue(profile.differentAt(i));
            }
            for (int i = 0; i < many; i++) {
                bits.write(profile.indexOf(column.get(firstRow + i)), profile.indexWidth());
            }
        }

        private void packFrame(int firstRow, int many) {
            int least = profile.least();
            int width = profile.frameWidth();
            writeValue(least);
            bits.write(width, WIDTH_BITS);
            for (int i = 0; i < many; i++) {
                bits.write(column.get(firstRow + i) - least, width);
            }
        }

        private void packDelta(int firstRow, int many) {
            int before = column.get(firstRow);
            int width = profile.deltaWidth();
            writeValue(before);
            bits.write(width, WIDTH_BITS);
            for (int i = 1; i < many; i++) {
                int value = column.get(firstRow + i);
                bits.write(Profile.fold(value - before), width);
                before = value;
            }
        }

        private void writeValue(int value) {
            bits.write(value + VALUE_OFFSET, VALUE_BITS);
        }

        private int readValue() {
            return bits.read(VALUE_BITS) - VALUE_OFFSET;
        }

        /** Reads rows into the column. */
        void unpack(int encoding, int firstRow, int many) {
            switch (encoding) {
                case PLAIN:
                    unpackPlain(firstRow, many);
                    break;
                case CONSTANT:
                    unpackConstant(firstRow, many);
                    break;
                case RUNS:
                    unpackRuns(firstRow, many);
                    break;
                case DICTIONARY:
                    unpackDictionary(firstRow, many);
                    break;
                case FRAME:
                    unpackFrame(firstRow, many);
                    break;
                default:
                    unpackDelta(firstRow, many);
                    break;
            }
        }

        private void unpackPlain(int firstRow, int many) {
            for (int i = 0; i < many; i++) {
                column.put(firstRow + i, readValue());
            }
        }

        private void unpackConstant(int firstRow, int many) {
            int value = readValue();
            for (int i = 0; i < many; i++) {
                column.put(firstRow + i, value);
            }
        }

        private void unpackRuns(int firstRow, int many) {
            int value = 0;
            int left = 0;
            for (int i = 0; i < many; i++) {
                if (left == 0) {
                    value = readValue();
                    left = bits.read(NUMBER_BITS);
                }
                column.put(firstRow + i, value);
                left--;
            }
        }

        private void unpackDictionary(int firstRow, int many) {
            int count = bits.read(NUMBER_BITS);
            int width = Profile.widthOf(count - 1);
            for (int i = 0; i < count; i++) {
                list.put(i, readValue());
            }
            for (int i = 0; i < many; i++) {
                column.put(firstRow + i, list.get(bits.read(width)));
            }
        }

        private void unpackFrame(int firstRow, int many) {
            int least = readValue();
            int width = bits.read(WIDTH_BITS);
            for (int i = 0; i < many; i++) {
                column.put(firstRow + i, least + bits.read(width));
            }
        }

        private void unpackDelta(int firstRow, int many) {
            int value = readValue();
            int width = bits.read(WIDTH_BITS);
            column.put(firstRow, value);
            for (int i = 1; i < many; i++) {
                value += unfold(bits.read(width));
                column.put(firstRow + i, value);
            }
        }

        private static int unfold(int number) {
            return (number & 1) == 0 ? number / 2 : -(number / 2) - 1;
        }
    }
}
