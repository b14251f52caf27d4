/** Promise 7: snapshot. */
final class Promise07SnapshotTest {
    public static void main(String[] args) {
        Checks checks = Checks.ofPromise(7);
        checks.sentence("A snapshot of now is open:", Promise07SnapshotTest::opensOneOfNow);
        checks.sentence("its number, the least of 0 .. 3 that is not open.", Promise07SnapshotTest::givesTheLeastNumber);
        checks.sentence("-3;", Promise07SnapshotTest::refusesWhenClosed);
        checks.sentence("-4.", Promise07SnapshotTest::refusesAFifth);
        checks.end();
    }

    private static void opensOneOfNow(Checks checks) {
        Store x = checks.store(2);
        x.count(5).due(0);
        x.write(1, 10);
        x.snapshot().due(0);
        x.count(5).due(1);
        x.find(0, 1, 0).due(10);
        x.write(1, 20);
        x.drop(1);
        x.find(0, 1, 0).due(10);
        x.release(0);
        x.snapshot().due(0);
        x.find(0, 1, 0).due(-1);
        x.count(3).due(50);
        x.count(2).due(3);
    }

    private static void givesTheLeastNumber(Checks checks) {
        Store x = checks.store(1);
        for (int s = 0; s < 4; s++) {
            x.snapshot().due(s);
            x.count(5).due(s + 1);
        }
        for (int s = 0; s < 4; s++) {
            x.release(s);
            x.snapshot().due(s);
        }
        x.release(2);
        x.release(1);
        x.release(3);
        x.snapshot().due(1);
        x.snapshot().due(2);
        x.release(0);
        x.snapshot().due(0);
        x.snapshot().due(3);
    }

    private static void refusesWhenClosed(Checks checks) {
        Store x = checks.store(1);
        for (int s = 0; s < 4; s++) {
            x.snapshot();
        }
        x.crash(0);
        x.snapshot().due(-3);
        x.count(5).due(0);
        x.reopen();
        x.count(5).due(0);
        x.snapshot().due(0);
    }

    private static void refusesAFifth(Checks checks) {
        Store x = checks.store(1);
        for (int s = 0; s < 4; s++) {
            x.snapshot().due(s);
        }
        x.snapshot().due(-4);
        x.count(5).due(4);
        x.release(3);
        x.snapshot().due(3);
        x.snapshot().due(-4);
    }
}
