/** Promise 17: used. */
final class Promise17UsedTest {
    public static void main(String[] args) {
        Checks checks = Checks.ofPromise(17);
        checks.sentence("How many bytes of a SEGMENT are USED: those written since it was FREE",
                Promise17UsedTest::countsWhatWasWritten);
        checks.sentence("since it was FREE", Promise17UsedTest::countsAnewBehindCleaning);
        checks.sentence("(by REOPENING: up to where that stopped there,", Promise17UsedTest::countsUpToTheStop);
        checks.sentence("which may be within what is no row;", Promise17UsedTest::countsIntoWhatIsNoRow);
        checks.sentence("while CLOSED as before the crash);", Promise17UsedTest::isAsBeforeTheCrash);
        checks.sentence("NONE if there is none such.", Promise17UsedTest::isNoneForNoSegment);
        checks.end();
    }

    private static void countsWhatWasWritten(Checks checks) {
        Store x = checks.store(2);
        x.dueUsed(0, 0);
        x.write(1, 1);
        x.dueUsed(17, 0);
        x.drop(1);
        x.dueUsed(33, 0);
        x.writeLongs(0, 4);
        x.dueUsed(177, 0);
        x.writeLong(4);
        x.dueUsed(177, 36);
        Store full = checks.store(1);
        full.writeLongs(0, 5);
        full.write(5, 1, 2, 3, 4);
        full.dueUsed(200);
    }

    private static void countsAnewBehindCleaning(Checks checks) {
        Store x = checks.store(2);
        x.writeLongs(0, 5);
        x.writeLongs(0, 5);
        x.clean(1, 1, -1).due(1);
        x.dueUsed(0, 180);
        x.writeLong(5);
        x.dueUsed(36, 180);
        Store y = checks.closedStore(1);
        y.forge(0, 1, 5, 5, 5);
        y.reopen().due(0);
        y.dueUsed(0);
        y.put(1);
        y.dueUsed(16);
    }

    private static void countsUpToTheStop(Checks checks) {
        Store x = checks.closedStore(5);
        x.forge(0, 0, Rows.row(1, 1, 1));
        x.forge(0, 18, Rows.row(2, 2));
        x.forge(1, 0, Rows.row(3, 3));
        x.forge(1, 16, Rows.bytes(3, 4, 4));
        x.forge(2, 0, Rows.row(5, 5, new int[21]));
        x.forge(3, 1, 9);
        x.reopen().due(2);
        x.dueUsed(17, 16, 0, 0, 0);
        Store full = checks.store(1);
        full.writeLongs(0, 5);
        full.write(5, 1, 2, 3, 4);
        full.crash(1000).due(0);
        full.reopen().due(6);
        full.dueUsed(200);
    }

    /** Of the second row 7 bytes stay, and its length is 0 then: 16 bytes, most of them 0. */
    private static void countsIntoWhatIsNoRow(Checks checks) {
        Store x = checks.store(1);
        x.write(1, 1, 2);
        x.write(2, 1, 2);
        x.crash(25).due(11);
        x.reopen().due(1);
        x.dueUsed(34);
        Store y = checks.closedStore(1);
        y.forge(0, 0, 1, 0, 0, 0, 0, 0, 0, 20);
        y.reopen().due(0);
        y.dueUsed(36);
        Store z = checks.closedStore(1);
        z.forge(0, 0, 1);
        z.forge(0, 16, 9);
        z.reopen().due(0);
        z.dueUsed(16);
    }

    private static void isAsBeforeTheCrash(Checks checks) {
        Store x = checks.store(3);
        x.writeLongs(0, 5);
        x.sync();
        x.writeLong(5);
        x.write(6, 1);
        x.crash(0).due(53);
        x.dueUsed(180, 53, 0);
        x.poke(0, 0, 1);
        x.poke(2, 0, 1);
        x.dueUsed(180, 53, 0);
        x.reopen().due(0);
        x.dueUsed(0, 0, 16);
        x.crash(0).due(0);
        x.dueUsed(0, 0, 16);
    }

    private static void isNoneForNoSegment(Checks checks) {
        for (int n = 1; n <= 12; n++) {
            Store x = checks.store(n);
            int[] others = {-1, n, n + 1, Integer.MIN_VALUE, Integer.MAX_VALUE};
            for (int segment : others) {
                x.used(segment).due(-1);
            }
            x.used(0).due(0);
            x.used(n - 1).due(0);
            x.crash(0).due(0);
            for (int segment : others) {
                x.used(segment).due(-1);
            }
            x.used(n - 1).due(0);
        }
    }
}
