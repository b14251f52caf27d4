/** Promise 18: count. */
final class Promise18CountTest {
    public static void main(String[] args) {
        Checks checks = Checks.ofPromise(18);
        checks.sentence("What = 0 KEYS that have something,", Promise18CountTest::counts0Keys);
        checks.sentence("1 SEGMENTS IN USE,", Promise18CountTest::counts1SegmentsInUse);
        checks.sentence("2 the NUMBER written last,", Promise18CountTest::counts2TheNumberWrittenLast);
        checks.sentence("3 bytes HELD BACK,", Promise18CountTest::counts3BytesHeldBack);
        checks.sentence("4 whether CLOSED (1 or 0),", Promise18CountTest::counts4WhetherClosed);
        checks.sentence("5 snapshots open,", Promise18CountTest::counts5SnapshotsOpen);
        checks.sentence("6 CONTENTS at hand,", Promise18CountTest::counts6ContentsAtHand);
        checks.sentence("7 the SEGMENT WRITTEN (NONE);", Promise18CountTest::counts7TheSegmentWritten);
        checks.sentence("0, 5 and 7 when CLOSED: 0, 0, NONE.", Promise18CountTest::counts0And5And7WhenClosed);
        checks.sentence("ArrayIndexOutOfBounds: another what.", Promise18CountTest::throwsForAnotherWhat);
        checks.end();
    }

    private static void counts0Keys(Checks checks) {
        Store x = checks.store(12);
        x.count(0).due(0);
        for (int key = 0; key < 144; key++) {
            x.put(key);
        }
        x.count(0).due(144);
        x.put(0).due(-4);
        Store y = checks.store(2);
        y.put(1);
        y.put(1);
        y.count(0).due(1);
        y.snapshot();
        y.drop(1);
        y.count(0).due(0);
        y.put(1);
        y.put(999);
        y.count(0).due(2);
    }

    private static void counts1SegmentsInUse(Checks checks) {
        Store x = checks.store(12);
        x.count(1).due(0);
        for (int segment = 0; segment < 12; segment++) {
            x.writeLongs(0, 5);
            x.count(1).due(segment + 1);
        }
        x.clean(1, 1, -1).due(11);
        x.count(1).due(1);
        x.crash(0).due(0);
        x.count(1).due(1);
        x.poke(11, 0, 1).due(0);
        x.count(1).due(0);
        x.poke(3, 0, 255);
        x.count(1).due(1);
    }

    private static void counts2TheNumberWrittenLast(Checks checks) {
        Store x = checks.store(2);
        x.count(2).due(0);
        x.put(1);
        x.count(2).due(1);
        x.drop(1);
        x.count(2).due(2);
        x.drop(1).due(-1);
        x.count(2).due(2);
        x.crash(16).due(16);
        x.count(2).due(2);
        x.reopen().due(1);
        x.count(2).due(1);
        x.put(2).due(2);
        x.count(2).due(2);
    }

    private static void counts3BytesHeldBack(Checks checks) {
        Store x = checks.store(2);
        x.count(3).due(0);
        x.write(1, 1);
        x.count(3).due(17);
        x.drop(1);
        x.count(3).due(33);
        x.sync();
        x.count(3).due(0);
        x.put(1);
        x.count(3).due(16);
        x.clean(0, 1, -1);
        x.count(3).due(0);
        x.put(1);
        x.crash(9).due(7);
        x.count(3).due(0);
        x.reopen();
        x.count(3).due(0);
    }

    private static void counts4WhetherClosed(Checks checks) {
        Store x = checks.store(1);
        x.count(4).due(0);
        x.crash(0);
        x.count(4).due(1);
        x.reopen();
        x.count(4).due(0);
        Store y = checks.closedStore(2);
        y.forge(0, 0, Rows.row(1, 1));
        y.reopen().due(1);
        y.clean(0, 1, 15).due(0);
        y.count(4).due(1);
    }

    private static void counts5SnapshotsOpen(Checks checks) {
        Store x = checks.store(1);
        for (int open = 0; open < 4; open++) {
            x.count(5).due(open);
            x.snapshot();
        }
        x.count(5).due(4);
        x.snapshot().due(-4);
        x.count(5).due(4);
        for (int open = 3; open >= 0; open--) {
            x.release(open);
            x.count(5).due(open);
        }
    }

    private static void counts6ContentsAtHand(Checks checks) {
        Store x = checks.store(1);
        for (int n = 0; n < 20; n++) {
            x.count(6).due(n);
            x.feed(n, 1);
        }
        x.count(6).due(20);
        x.feed(1, 1).due(-4);
        x.count(6).due(20);
        x.crash(0);
        x.count(6).due(20);
        x.reopen();
        x.count(6).due(20);
        x.put(1);
        x.count(6).due(0);
    }

    private static void counts7TheSegmentWritten(Checks checks) {
        Store x = checks.store(12);
        x.count(7).due(-1);
        for (int segment = 0; segment < 12; segment++) {
            x.writeLongs(0, 5);
            x.count(7).due(segment);
        }
        x.writeLong(0).due(-4);
        x.count(7).due(11);
        x.crash(5000).due(0);
        x.reopen().due(5);
        x.count(7).due(-1);
    }

    private static void counts0And5And7WhenClosed(Checks checks) {
        Store x = checks.store(3);
        x.writeLongs(0, 6);
        x.snapshot();
        x.snapshot();
        x.feed(1, 1);
        x.dueCounts(6, 2, 6, 216, 0, 2, 1, 1);
        x.crash(1000).due(0);
        x.dueCounts(0, 2, 6, 0, 1, 0, 1, -1);
        Store y = checks.store(3);
        y.writeLongs(0, 6);
        y.snapshot();
        y.clean(0, 1, 1).due(0);
        y.dueCounts(0, 2, 6, 0, 1, 0, 0, -1);
    }

    private static void throwsForAnotherWhat(Checks checks) {
        Store x = checks.store(1);
        int[] others = {-1, -2, 8, 9, Integer.MIN_VALUE, Integer.MAX_VALUE};
        for (int what : others) {
            x.count(what).dueThrown();
        }
        x.crash(0);
        for (int what : others) {
            x.count(what).dueThrown();
        }
        x.count(0).due(0);
        x.count(7).due(-1);
    }
}
