/** Promise 8: release. */
final class Promise08ReleaseTest {
    public static void main(String[] args) {
        Checks checks = Checks.ofPromise(8);
        checks.sentence("It is not open any more: 1.", Promise08ReleaseTest::releases);
        checks.sentence("-3;", Promise08ReleaseTest::refusesWhenClosed);
        checks.sentence("-1.", Promise08ReleaseTest::refusesWhatIsNotOpen);
        checks.end();
    }

    private static void releases(Checks checks) {
        Store x = checks.store(1);
        x.write(1, 11);
        for (int s = 0; s < 4; s++) {
            x.snapshot();
        }
        x.write(1, 12);
        x.living(0).due(34);
        for (int s = 3; s >= 1; s--) {
            x.release(s).due(1);
            x.count(5).due(s);
            x.length(s, 1).due(-1);
            x.find(0, 1, 0).due(11);
            x.living(0).due(34);
        }
        x.release(0).due(1);
        x.count(5).due(0);
        x.living(0).due(17);
    }

    private static void refusesWhenClosed(Checks checks) {
        Store x = checks.store(1);
        x.snapshot();
        x.crash(0);
        int[] all = {-2, -1, 0, 1, 3, 4};
        for (int s : all) {
            x.release(s).due(-3);
        }
        x.reopen();
        x.release(0).due(-1);
    }

    private static void refusesWhatIsNotOpen(Checks checks) {
        Store x = checks.store(1);
        for (int s = -2; s <= 5; s++) {
            x.release(s).due(-1);
        }
        x.snapshot();
        x.snapshot();
        x.release(0).due(1);
        int[] others = {-2, -1, 0, 2, 3, 4, 5, Integer.MIN_VALUE, Integer.MAX_VALUE};
        for (int s : others) {
            x.release(s).due(-1);
        }
        x.count(5).due(1);
        x.release(1).due(1);
        x.release(1).due(-1);
    }
}
