/** Promise 10: crash. */
final class Promise10CrashTest {
    public static void main(String[] args) {
        Checks checks = Checks.ofPromise(10);
        checks.sentence("Of what is HELD BACK only the first so many bytes stay, others become 0;",
                Promise10CrashTest::keepsTheFirstBytes);
        checks.sentence("the first so many bytes", Promise10CrashTest::keepsThemOverSegments);
        checks.sentence("others become 0;", Promise10CrashTest::zeroesWrittenBytesAlone);
        checks.sentence("CLOSED:", Promise10CrashTest::closes);
        checks.sentence("how many were lost.", Promise10CrashTest::answersHowManyWereLost);
        checks.sentence("-3;", Promise10CrashTest::refusesWhenClosed);
        checks.sentence("-2 below 0.", Promise10CrashTest::refusesBelow0);
        checks.end();
    }

    /** 17 bytes are synced, 34 are HELD BACK. */
    private static void keepsTheFirstBytes(Checks checks) {
        int[] whole = new int[51];
        System.arraycopy(Rows.row(1, 1, 255), 0, whole, 0, 17);
        System.arraycopy(Rows.row(2, 2, 255, 254), 0, whole, 17, 18);
        System.arraycopy(Rows.grave(1, 3), 0, whole, 35, 16);
        for (int kept = 0; kept <= 36; kept++) {
            Store x = checks.store(1);
            x.write(1, 255);
            x.sync();
            x.write(2, 255, 254);
            x.drop(1);
            x.crash(kept).due(Math.max(0, 34 - kept));
            for (int i = 0; i < 200; i++) {
                x.byteAt(0, i).due(i < 51 && i < 17 + kept ? whole[i] : 0);
            }
            x.used(0).due(51);
            x.reopen().due(kept < 18 ? 1 : kept < 34 ? 2 : 1);
            x.count(2).due(kept < 18 ? 1 : kept < 34 ? 2 : 3);
            x.badAt().due(kept == 0 || kept == 18 || kept >= 34 ? -1 : kept < 7 ? 0 : kept < 18 ? 2
                    : kept < 25 ? 0 : 3);
        }
    }

    private static void keepsThemOverSegments(Checks checks) {
        for (int kept = 179; kept <= 182; kept++) {
            Store x = checks.store(3);
            x.writeLongs(500, 506);
            x.count(3).due(216);
            x.crash(kept).due(216 - kept);
            int[] last = Rows.row(504, 5, Rows.twenty(504));
            x.byteAt(0, 178).due(last[34]);
            x.byteAt(0, 179).due(kept < 180 ? 0 : last[35]);
            x.byteAt(1, 0).due(kept < 181 ? 0 : 1);
            x.byteAt(1, 1).due(kept < 182 ? 0 : 1);
            x.dueZeros(1, 2, 36);
            x.count(1).due(kept < 181 ? 1 : 2);
            x.reopen().due(kept < 180 ? 4 : 5);
            x.dueUsed(180, kept < 181 ? 0 : 16, 0);
        }
    }

    /** What stood in a FREE SEGMENT behind the bytes written is no byte that was HELD BACK. */
    private static void zeroesWrittenBytesAlone(Checks checks) {
        Store x = checks.closedStore(1);
        x.forge(0, 16, 9, 9);
        x.forge(0, 199, 7);
        x.reopen().due(0);
        x.used(0).due(0);
        x.put(3).due(1);
        x.byteAt(0, 16).due(9);
        x.crash(0).due(16);
        x.dueZeros(0, 0, 16);
        x.byteAt(0, 16).due(9);
        x.byteAt(0, 199).due(7);
    }

    private static void closes(Checks checks) {
        Store x = checks.store(2);
        x.write(1, 1);
        x.snapshot();
        x.feed(1, 3);
        x.crash(5).due(12);
        x.dueCounts(0, 1, 1, 0, 1, 0, 3, -1);
        x.living(0).due(-1);
        x.length(-1, 1).due(-1);
        x.used(0).due(17);
        x.reopen().due(0);
        x.count(4).due(0);
        Store y = checks.store(1);
        y.crash(0).due(0);
        y.dueCounts(0, 0, 0, 0, 1, 0, 0, -1);
    }

    private static void answersHowManyWereLost(Checks checks) {
        int[][] keptAndLost = {{0, 33}, {1, 32}, {32, 1}, {33, 0}, {34, 0}, {Integer.MAX_VALUE, 0}};
        for (int[] pair : keptAndLost) {
            Store x = checks.store(1);
            x.put(4);
            x.sync();
            x.write(1, 1);
            x.drop(1);
            x.crash(pair[0]).due(pair[1]);
        }
        checks.store(1).crash(0).due(0);
        checks.store(1).crash(7).due(0);
        Store y = checks.store(1);
        y.write(1, 1);
        y.crash(17).due(0);
        y.count(3).due(0);
        y.reopen().due(1);
        y.count(3).due(0);
        y.crash(0).due(0);
        y.reopen().due(1);
    }

    private static void refusesWhenClosed(Checks checks) {
        Store x = checks.store(1);
        x.write(1, 1);
        x.crash(17).due(0);
        x.crash(0).due(-3);
        x.crash(-1).due(-3);
        x.crash(Integer.MAX_VALUE).due(-3);
        x.reopen().due(1);
    }

    private static void refusesBelow0(Checks checks) {
        Store x = checks.store(1);
        x.write(1, 1);
        x.crash(-1).due(-2);
        x.crash(-2).due(-2);
        x.crash(Integer.MIN_VALUE).due(-2);
        x.count(4).due(0);
        x.count(3).due(17);
        x.length(-1, 1).due(1);
        x.crash(0).due(17);
    }
}
