/** Promise 1: a new object. */
final class Promise01NewObjectTest {
    public static void main(String[] args) {
        Checks checks = Checks.ofPromise(1);
        checks.sentence("So many SEGMENTS (1 .. 12;", Promise01NewObjectTest::hasSoManySegments);
        checks.sentence("for other numbers the nearest of these);", Promise01NewObjectTest::hasTheNearestNumber);
        checks.sentence("open;", Promise01NewObjectTest::isOpen);
        checks.sentence("CONTENTS at hand are empty.", Promise01NewObjectTest::hasNoContentsAtHand);
        checks.end();
    }

    private static void hasSoManySegments(Checks checks) {
        for (int n = 1; n <= 12; n++) {
            dueSegments(checks.store(n), n);
        }
    }

    private static void hasTheNearestNumber(Checks checks) {
        int[] below = {0, -1, -12, Integer.MIN_VALUE};
        for (int n : below) {
            dueSegments(checks.store(n), 1);
        }
        int[] above = {13, 14, 256, Integer.MAX_VALUE};
        for (int n : above) {
            dueSegments(checks.store(n), 12);
        }
    }

    private static void dueSegments(Store x, int n) {
        for (int segment = 0; segment < n; segment++) {
            x.used(segment).due(0);
            x.living(segment).due(0);
            x.byteAt(segment, 199).due(0);
        }
        x.used(n).due(-1);
        x.living(n).due(-1);
        x.byteAt(n, 0).dueThrown();
        for (int segment = 0; segment < n; segment++) {
            x.writeLongs(0, 5);
            x.count(7).due(segment);
        }
        x.writeLong(5).due(-4);
    }

    private static void isOpen(Checks checks) {
        Store x = checks.store(12);
        x.dueCounts(0, 0, 0, 0, 0, 0, 0, -1);
        x.badAt().due(-1);
        x.sync().due(0);
        x.reopen().due(-3);
        x.poke(0, 0, 1).due(-3);
        x.snapshot().due(0);
        x.put(5).due(1);
    }

    private static void hasNoContentsAtHand(Checks checks) {
        Store x = checks.store(1);
        x.count(6).due(0);
        x.put(0).due(1);
        x.length(-1, 0).due(0);
        x.used(0).due(16);
        checks.store(1).feed(1, 1).due(1);
    }
}
