/** Terms: what is HELD BACK. */
final class TermsHeldBackTest {
    public static void main(String[] args) {
        Checks checks = Checks.ofTerm("HELD BACK are");
        checks.sentence("HELD BACK are the bytes that were written", TermsHeldBackTest::allThatIsWrittenIsHeldBack);
        checks.sentence("since the last sync,", TermsHeldBackTest::whatIsSyncedIsNotHeldBack);
        checks.sentence("in their order.", TermsHeldBackTest::orderIsThatOfWritingNotOfSegments);
        checks.end();
    }

    private static void allThatIsWrittenIsHeldBack(Checks checks) {
        Store x = checks.store(2);
        x.count(3).due(0);
        x.feed(1, 4);
        x.count(3).due(0);
        x.put(1);
        x.count(3).due(20);
        x.drop(1);
        x.count(3).due(36);
        x.drop(1).due(-1);
        x.count(3).due(36);
        x.writeLongs(0, 9);
        x.count(3).due(36 + 9 * 36);
        x.writeLong(9).due(-4);
        x.count(3).due(36 + 9 * 36);
        x.sync().due(36 + 9 * 36);
        Store y = checks.store(12);
        for (int i = 0; i < 60; i++) {
            y.writeLong(i);
            if (i % 5 == 4) {
                y.write(i, 1, 2, 3, 4);
            }
        }
        y.count(3).due(2400);
        y.crash(0).due(2400);
    }

    private static void whatIsSyncedIsNotHeldBack(Checks checks) {
        Store x = checks.store(2);
        x.write(1, 1);
        x.sync().due(17);
        x.count(3).due(0);
        x.write(2, 2, 2);
        x.count(3).due(18);
        x.crash(0).due(18);
        x.dueBytes(0, 0, Rows.row(1, 1, 1));
        x.dueZeros(0, 17, 200);
        Store y = checks.store(2);
        y.write(1, 1);
        y.clean(1, 1, -1).due(0);
        y.count(3).due(0);
        y.crash(0).due(0);
        y.reopen().due(1);
    }

    /** SEGMENT 1 is full first, then 0, which was cleaned, is WRITTEN. */
    private static void orderIsThatOfWritingNotOfSegments(Checks checks) {
        for (int kept = 19; kept <= 22; kept++) {
            Store x = checks.closedStore(2);
            x.forge(0, 0, Rows.grave(5, 1));
            x.reopen().due(0);
            x.writeLongs(10, 15);
            x.clean(1, 1, -1).due(1);
            x.write(20, 1, 2, 3, 4).due(7);
            x.write(21, 9).due(8);
            x.dueUsed(17, 200);
            x.count(3).due(37);
            x.crash(kept).due(37 - kept);
            int[] first = Rows.row(20, 7, 1, 2, 3, 4);
            for (int i = 0; i < 20; i++) {
                x.byteAt(1, 180 + i).due(i < kept ? first[i] : 0);
            }
            int[] second = Rows.row(21, 8, 9);
            for (int i = 0; i < 17; i++) {
                x.byteAt(0, i).due(20 + i < kept ? second[i] : 0);
            }
            x.dueZeros(0, 17, 200);
        }
    }
}
