import java.lang.reflect.Field;
import java.util.Arrays;

/**
 * Values and answers are read from the bits: whatever else the object holds of its values is
 * overwritten before each call, and the answers must be those of an untouched twin.
 */
public final class BitsTests {
    private static final String[][] SCRATCH = {{"column"}, {"profile", "runsUpTo"}, {"profile", "different"},
        {"coder", "list"}};
    private static int wrong = 0;

    private interface Call {
        long go(ColumnChooser x);
    }

    public static void main(String[] args) throws Exception {
        for (int encoding = 0; encoding <= 5; encoding++) {
            compare(encoding);
        }
        checkChangedBit();
        System.out.println(wrong == 0 ? "all is read from the bits" : wrong + " answers are not from the bits");
        if (wrong != 0) {
            System.exit(1);
        }
    }

    private static Object held(Object from, String name) throws Exception {
        Field field = from.getClass().getDeclaredField(name);
        field.setAccessible(true);
        return field.get(from);
    }

    private static void scramble(ColumnChooser x) throws Exception {
        for (String[] path : SCRATCH) {
            Object row = x;
            for (String name : path) {
                row = held(row, name);
            }
            Arrays.fill((int[]) held(row, "cells"), 12345);
        }
    }

    private static ColumnChooser filled(int encoding) {
        ColumnChooser x = new ColumnChooser();
        x.setSegmentSize(5);
        if (encoding == 1) {
            x.append(-8, 23);
        } else {
            x.climb(-9, 4, 7);
            x.append(3, 6);
            x.climb(100000, -50000, 5);
            x.append(-100000, 5);
        }
        x.addQuery(0, 8, 0, 3);
        x.addQuery(1, 2, 19, 4);
        x.addQuery(2, 3, 0, 5);
        for (int k = 0; k < x.segmentCount(); k++) {
            x.use(k, encoding);
        }
        return x;
    }

    private static void compare(int encoding) throws Exception {
        Call[] calls = {x -> x.value(0), x -> x.value(12), x -> x.value(22), x -> x.answer(0), x -> x.answer(1),
            x -> x.answer(2), x -> x.sizeWith(2, 3), x -> x.costWith(2, 1, 3), x -> x.scoreWith(3, 5), x -> x.score(),
            x -> x.bestSegmentSize(), x -> x.use(4, 2), x -> x.set(6, 1), x -> x.cut(2), x -> x.append(2, 4),
            x -> x.choose(), x -> x.climb(1, 1, 7), x -> x.setSegmentSize(9), x -> x.choose(), x -> x.answer(1),
            x -> x.setSegmentSize(32), x -> x.answer(2), x -> x.score()};
        ColumnChooser x = filled(encoding);
        ColumnChooser twin = filled(encoding);
        for (int i = 0; i < calls.length; i++) {
            scramble(x);
            long got = calls[i].go(x);
            long want = calls[i].go(twin);
            if (got != want || x.digest() != twin.digest()) {
                wrong++;
                System.out.println("encoding " + encoding + ", call " + i + " answered " + got + ", due is " + want);
            }
        }
    }

    // Another bit is another value: bit 17 of PLAIN is the last one of the first value.
    private static void checkChangedBit() throws Exception {
        ColumnChooser x = new ColumnChooser();
        x.append(6, 2);
        x.addQuery(1, 0, 96, 1);
        int[] cells = (int[]) held(held(x, "bits"), "cells");
        cells[17] = 1;
        if (x.value(0) != 7 || x.answer(0) != 13) {
            wrong++;
            System.out.println("a changed bit is not read");
        }
    }
}
