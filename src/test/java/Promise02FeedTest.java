/** Promise 2: feed. */
final class Promise02FeedTest {
    public static void main(String[] args) {
        Checks checks = Checks.ofPromise(2);
        checks.sentence("The lowest n bytes of b, the highest of these first, come to the CONTENTS at hand:",
                Promise02FeedTest::takesTheLowestBytes);
        checks.sentence("how many these have.", Promise02FeedTest::answersHowMany);
        checks.sentence("-2 n is not 0 .. 4;", Promise02FeedTest::refusesOtherNs);
        checks.sentence("-4 above 20.", Promise02FeedTest::refusesMoreThan20);
        checks.sentence("(Goes when CLOSED, too.)", Promise02FeedTest::goesWhenClosed);
        checks.end();
    }

    private static void takesTheLowestBytes(Checks checks) {
        Store x = checks.store(1);
        x.feed(-1, 0).due(0);
        x.feed(0x11223344, 1).due(1);
        x.feed(0x11223344, 2).due(3);
        x.feed(0x11223344, 3).due(6);
        x.feed(0x81223344, 4).due(10);
        x.feed(Integer.MIN_VALUE, 4).due(14);
        x.feed(-2, 4).due(18);
        x.put(9).due(1);
        int[] want = {0x44, 0x33, 0x44, 0x22, 0x33, 0x44, 0x81, 0x22, 0x33, 0x44, 128, 0, 0, 0, 255, 255, 255, 254};
        for (int i = 0; i < want.length; i++) {
            x.find(-1, 9, i).due(want[i]);
        }
        x.length(-1, 9).due(18);
    }

    private static void answersHowMany(Checks checks) {
        for (int n = 0; n <= 4; n++) {
            Store x = checks.store(1);
            for (int i = 1; i <= 5; i++) {
                x.feed(i, n).due(i * n);
                x.count(6).due(i * n);
            }
        }
    }

    private static void refusesOtherNs(Checks checks) {
        Store x = checks.store(1);
        int[] outside = {-1, 5, 6, 20, Integer.MIN_VALUE, Integer.MAX_VALUE};
        for (int n : outside) {
            x.feed(1, n).due(-2);
            x.count(6).due(0);
        }
        x.feed(1, 0).due(0);
        x.feed(1, 4).due(4);
    }

    private static void refusesMoreThan20(Checks checks) {
        for (int had = 16; had <= 20; had++) {
            for (int n = 0; n <= 4; n++) {
                Store x = checks.store(1);
                for (int i = 1; i <= had; i++) {
                    x.feed(i, 1).due(i);
                }
                x.feed(-1, n).due(had + n <= 20 ? had + n : -4);
                x.count(6).due(had + n <= 20 ? had + n : had);
                x.feed(-1, 5).due(-2);
                x.put(3).due(1);
                x.length(-1, 3).due(had + n <= 20 ? had + n : had);
                x.find(-1, 3, had - 1).due(had);
            }
        }
    }

    private static void goesWhenClosed(Checks checks) {
        Store x = checks.store(1);
        x.feed(1, 1);
        x.crash(0).due(0);
        x.count(6).due(1);
        x.feed(0x0203, 2).due(3);
        x.feed(1, 5).due(-2);
        x.feed(1, -1).due(-2);
        x.reopen().due(0);
        x.put(4).due(1);
        x.length(-1, 4).due(3);
        for (int i = 0; i < 3; i++) {
            x.find(-1, 4, i).due(i + 1);
        }
        x.crash(0);
        for (int i = 1; i <= 5; i++) {
            x.feed(i, 4).due(4 * i);
        }
        x.feed(1, 1).due(-4);
    }
}
