/** Promise 9: sync. */
final class Promise09SyncTest {
    public static void main(String[] args) {
        Checks checks = Checks.ofPromise(9);
        checks.sentence("Nothing is HELD BACK any more:", Promise09SyncTest::holdsNothingBack);
        checks.sentence("how many bytes were.", Promise09SyncTest::answersHowManyWere);
        checks.sentence("-3.", Promise09SyncTest::refusesWhenClosed);
        checks.end();
    }

    private static void holdsNothingBack(Checks checks) {
        Store x = checks.store(2);
        x.writeLongs(0, 7);
        x.count(3).due(252);
        x.sync();
        x.count(3).due(0);
        x.write(7, 1);
        x.count(3).due(17);
        x.crash(0).due(17);
        x.reopen().due(7);
        x.length(-1, 6).due(20);
        x.length(-1, 7).due(-1);
    }

    private static void answersHowManyWere(Checks checks) {
        Store x = checks.store(12);
        x.sync().due(0);
        x.write(1, 1);
        x.write(2, 1, 2);
        x.drop(1);
        x.sync().due(51);
        x.sync().due(0);
        x.put(3);
        x.sync().due(16);
        for (int i = 0; i < 30; i++) {
            x.writeLong(i);
        }
        x.sync().due(30 * 36);
    }

    private static void refusesWhenClosed(Checks checks) {
        Store x = checks.store(1);
        x.write(1, 1);
        x.crash(17).due(0);
        x.sync().due(-3);
        x.reopen().due(1);
        x.sync().due(0);
    }
}
