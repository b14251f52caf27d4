/** Promise 5: length. */
final class Promise05LengthTest {
    public static void main(String[] args) {
        Checks checks = Checks.ofPromise(5);
        checks.sentence("How many bytes a KEY has at a snapshot's MOMENT", Promise05LengthTest::tellsThen);
        checks.sentence("at a snapshot's MOMENT", Promise05LengthTest::tellsThenBehindCleaning);
        checks.sentence("(NONE: now);", Promise05LengthTest::tellsNow);
        checks.sentence("NONE if nothing,", Promise05LengthTest::isNoneIfNothing);
        checks.sentence("or there is no such KEY", Promise05LengthTest::isNoneForNoKey);
        checks.sentence("or snapshot that is open,", Promise05LengthTest::isNoneForNoOpenSnapshot);
        checks.sentence("or CLOSED.", Promise05LengthTest::isNoneWhenClosed);
        checks.end();
    }

    private static void tellsThen(Checks checks) {
        Store x = checks.store(3);
        for (int s = 0; s < 4; s++) {
            x.write(5, new int[s]);
            x.snapshot().due(s);
        }
        x.write(5, Rows.twenty(1));
        for (int s = 0; s < 4; s++) {
            x.length(s, 5).due(s);
        }
        x.release(2);
        x.snapshot().due(2);
        x.length(2, 5).due(20);
        x.length(3, 5).due(3);
    }

    private static void tellsThenBehindCleaning(Checks checks) {
        Store x = checks.store(4);
        x.write(1, 11);
        x.write(2, 12);
        x.drop(2);
        x.snapshot();
        x.write(1, 21, 22);
        x.snapshot();
        x.write(1);
        x.write(2, 32, 33, 34);
        for (int i = 0; i < 4; i++) {
            x.writeLong(50);
        }
        x.clean(0, 1, -1).due(1);
        x.length(0, 1).due(1);
        x.length(1, 1).due(2);
        x.length(-1, 1).due(0);
        x.length(0, 2).due(-1);
        x.length(1, 2).due(-1);
        x.length(-1, 2).due(3);
        x.find(1, 1, 1).due(22);
    }

    private static void tellsNow(Checks checks) {
        Store x = checks.store(2);
        for (int size = 0; size <= 20; size += 4) {
            x.write(7, new int[size]);
            x.length(GraveSegments.NONE, 7).due(size);
        }
    }

    private static void isNoneIfNothing(Checks checks) {
        Store x = checks.store(1);
        x.snapshot();
        x.length(-1, 5).due(-1);
        x.write(5, 1);
        x.length(0, 5).due(-1);
        x.length(-1, 5).due(1);
        x.length(-1, 6).due(-1);
        x.drop(5);
        x.length(-1, 5).due(-1);
        x.put(5);
        x.length(-1, 5).due(0);
    }

    private static void isNoneForNoKey(Checks checks) {
        Store x = checks.store(1);
        x.put(0);
        x.put(999);
        x.snapshot();
        int[] others = {-1, 1000, 1001, Integer.MIN_VALUE, Integer.MAX_VALUE};
        for (int key : others) {
            x.length(-1, key).due(-1);
            x.length(0, key).due(-1);
        }
        x.length(0, 0).due(0);
        x.length(0, 999).due(0);
    }

    private static void isNoneForNoOpenSnapshot(Checks checks) {
        Store x = checks.store(1);
        x.put(5);
        int[] others = {-2, 0, 1, 3, 4, 5, Integer.MIN_VALUE, Integer.MAX_VALUE};
        for (int snapshot : others) {
            x.length(snapshot, 5).due(-1);
        }
        for (int s = 0; s < 4; s++) {
            x.snapshot().due(s);
            x.length(s, 5).due(0);
            x.length(s + 1, 5).due(-1);
        }
        x.release(3);
        x.length(3, 5).due(-1);
        x.length(2, 5).due(0);
    }

    private static void isNoneWhenClosed(Checks checks) {
        Store x = checks.store(1);
        x.put(5);
        x.snapshot();
        x.crash(16).due(0);
        x.length(-1, 5).due(-1);
        x.length(0, 5).due(-1);
        x.reopen().due(1);
        x.length(-1, 5).due(0);
        x.length(0, 5).due(-1);
    }
}
