import java.math.BigInteger;

/** Rows in bytes, made by the words of the document alone, and ways to set them into an object. */
final class Rows {
    static final int ROW = 1;
    static final int GRAVE = 2;

    private static final BigInteger FACTOR = new BigInteger("9E3779B97F4A7C15", 16);
    private static final BigInteger LONG = BigInteger.ONE.shiftLeft(64);

    private Rows() {
    }

    static int[] row(int key, int number, int... contents) {
        return bytes(ROW, key, number, contents);
    }

    static int[] grave(int key, int number) {
        return bytes(GRAVE, key, number);
    }

    /** The bytes of a row, its SUM fitting, whatever the other parts are. */
    static int[] bytes(int kind, int key, int number, int... contents) {
        int[] row = new int[16 + contents.length];
        row[0] = kind;
        row[1] = key / 256;
        row[2] = key % 256;
        for (int i = 0; i < 4; i++) {
            row[3 + i] = number >> (24 - 8 * i) & 0xFF;
        }
        row[7] = contents.length;
        System.arraycopy(contents, 0, row, 8, contents.length);
        seal(row);
        return row;
    }

    /** Sets the SUM of a row whose other bytes stand. */
    static void seal(int[] row) {
        BigInteger sum = sum(row, 0, row.length - 8);
        for (int i = 0; i < 8; i++) {
            row[row.length - 1 - i] = sum.shiftRight(8 * i).intValue() & 0xFF;
        }
    }

    static BigInteger sum(int[] bytes, int from, int to) {
        BigInteger s = BigInteger.ZERO;
        for (int i = from; i < to; i++) {
            s = s.xor(BigInteger.valueOf(bytes[i]));
            s = s.shiftLeft(45).mod(LONG).or(s.shiftRight(64 - 45));
            s = s.multiply(FACTOR).mod(LONG);
        }
        return s;
    }

    /** Makes the bytes of a closed object's segment, from a place on, the ones told. */
    static void set(GraveSegments x, int segment, int at, int... bytes) {
        for (int i = 0; i < bytes.length; i++) {
            x.poke(segment, at + i, x.byteAt(segment, at + i) ^ bytes[i]);
        }
    }

    /** Feeds bytes one by one and puts them. */
    static int put(GraveSegments x, int key, int... contents) {
        for (int b : contents) {
            x.feed(b, 1);
        }
        return x.put(key);
    }

    /** A row of 36 bytes: five of them leave 20 bytes of a segment, where one of 20 fits. */
    static int putLong(GraveSegments x, int key) {
        for (int i = 0; i < 5; i++) {
            x.feed(key, 4);
        }
        return x.put(key);
    }
}
