import java.math.BigInteger;
import java.util.Arrays;

/** Rows in bytes, made by the words of the document alone. */
final class Rows {
    static final int ROW = 1;
    static final int GRAVE = 2;

    private static final BigInteger FACTOR = new BigInteger("9E3779B97F4A7C15", 16);
    private static final BigInteger LONG = BigInteger.ONE.shiftLeft(64);

    private Rows() {
    }

    static int[] row(int key, int number, int... contents) {
        return bytes(ROW, key, number, contents);
    }

    static int[] grave(int key, int number) {
        return bytes(GRAVE, key, number);
    }

    /** Twenty bytes of CONTENTS. */
    static int[] twenty(int value) {
        int[] contents = new int[20];
        Arrays.fill(contents, value & 0xFF);
        return contents;
    }

    /** The bytes of a row, its SUM fitting, whatever the other parts are. */
    static int[] bytes(int kind, int key, int number, int... contents) {
        int[] row = new int[16 + contents.length];
        row[0] = kind;
        row[1] = key / 256;
        row[2] = key % 256;
        for (int i = 0; i < 4; i++) {
            row[3 + i] = number >> (24 - 8 * i) & 0xFF;
        }
        row[7] = contents.length;
        System.arraycopy(contents, 0, row, 8, contents.length);
        seal(row);
        return row;
    }

    /** Sets the SUM of a row whose other bytes stand. */
    static void seal(int[] row) {
        BigInteger sum = sum(row, 0, row.length - 8);
        for (int i = 0; i < 8; i++) {
            row[row.length - 1 - i] = sum.shiftRight(8 * i).intValue() & 0xFF;
        }
    }

    static BigInteger sum(int[] bytes, int from, int to) {
        BigInteger s = BigInteger.ZERO;
        for (int i = from; i < to; i++) {
            s = s.xor(BigInteger.valueOf(bytes[i]));
            s = s.shiftLeft(45).mod(LONG).or(s.shiftRight(64 - 45));
            s = s.multiply(FACTOR).mod(LONG);
        }
        return s;
    }
}
