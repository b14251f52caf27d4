/** Promise 15: byteAt. */
final class Promise15ByteAtTest {
    private static final int[][] NO_BYTES = {
        {-1, 0}, {3, 0}, {0, -1}, {0, 200}, {2, 200}, {-1, -1}, {3, 200}, {1, 400}, {-1, 200}, {1, -200}, {-1, 199},
        {Integer.MIN_VALUE, 0}, {Integer.MAX_VALUE, 0}, {0, Integer.MIN_VALUE}, {0, Integer.MAX_VALUE}};

    public static void main(String[] args) {
        Checks checks = Checks.ofPromise(15);
        checks.sentence("Byte i of a SEGMENT.", Promise15ByteAtTest::tellsBytesWhenOpen);
        checks.sentence("Byte i of a SEGMENT.", Promise15ByteAtTest::tellsBytesWhenClosed);
        checks.sentence("ArrayIndexOutOfBounds: there is none.", Promise15ByteAtTest::throwsWhereThereIsNone);
        checks.end();
    }

    private static void tellsBytesWhenOpen(Checks checks) {
        Store x = checks.store(2);
        x.write(515, 250, 0, 128);
        x.dueBytes(0, 0, Rows.row(515, 1, 250, 0, 128));
        x.dueZeros(0, 19, 200);
        x.dueZeros(1, 0, 200);
        Store full = checks.store(1);
        full.writeLongs(0, 5);
        full.write(515, 250, 0, 128, 255);
        full.dueBytes(0, 180, Rows.row(515, 6, 250, 0, 128, 255));
    }

    private static void tellsBytesWhenClosed(Checks checks) {
        Store x = checks.store(2);
        x.write(515, 250, 0, 128);
        x.crash(4).due(15);
        x.dueBytes(0, 0, 1, 2, 3, 0);
        x.dueZeros(0, 4, 200);
        x.poke(1, 199, 255);
        x.byteAt(1, 199).due(255);
        x.poke(1, 0, 200);
        x.byteAt(1, 0).due(200);
    }

    private static void throwsWhereThereIsNone(Checks checks) {
        Store x = checks.store(3);
        for (int[] told : NO_BYTES) {
            x.byteAt(told[0], told[1]).dueThrown();
        }
        x.crash(0).due(0);
        for (int[] told : NO_BYTES) {
            x.byteAt(told[0], told[1]).dueThrown();
        }
        x.byteAt(0, 0).due(0);
        x.byteAt(2, 199).due(0);
        for (int n = 1; n <= 12; n++) {
            Store y = checks.store(n);
            y.byteAt(n - 1, 199).due(0);
            y.byteAt(n, 0).dueThrown();
        }
    }
}
