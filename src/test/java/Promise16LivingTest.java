/** Promise 16: living; which rows LIVE is tested by TermsLivesTest. */
final class Promise16LivingTest {
    public static void main(String[] args) {
        Checks checks = Checks.ofPromise(16);
        checks.sentence("How many bytes of a SEGMENT's rows LIVE;", Promise16LivingTest::countsBytesBySegments);
        checks.sentence("How many bytes", Promise16LivingTest::countsUpTo200);
        checks.sentence("NONE if there is none such,", Promise16LivingTest::isNoneForNoSegment);
        checks.sentence("or CLOSED.", Promise16LivingTest::isNoneWhenClosed);
        checks.end();
    }

    /** Behind the cleaning the GRAVE of 1 has no lesser row any more; that of 0 has one in SEGMENT 1. */
    private static void countsBytesBySegments(Checks checks) {
        Store x = checks.store(3);
        x.dueLiving(0, 0, 0);
        x.writeLongs(0, 5);
        x.dueLiving(180, 0, 0);
        x.writeLong(0);
        x.dueLiving(144, 36, 0);
        x.snapshot();
        x.drop(0);
        x.dueLiving(144, 52, 0);
        x.drop(1);
        x.dueLiving(144, 68, 0);
        x.release(0);
        x.dueLiving(108, 32, 0);
        x.clean(1, 5, -1).due(1);
        x.dueLiving(0, 108 + 16, 0);
    }

    private static void countsUpTo200(Checks checks) {
        Store x = checks.store(1);
        x.writeLongs(0, 5);
        x.write(5, 1, 2, 3, 4);
        x.living(0).due(200);
        Store y = checks.store(1);
        for (int key = 0; key < 12; key++) {
            y.put(key);
        }
        y.living(0).due(192);
    }

    private static void isNoneForNoSegment(Checks checks) {
        for (int n = 1; n <= 12; n++) {
            Store x = checks.store(n);
            int[] others = {-1, n, n + 1, Integer.MIN_VALUE, Integer.MAX_VALUE};
            for (int segment : others) {
                x.living(segment).due(-1);
            }
            x.living(0).due(0);
            x.living(n - 1).due(0);
        }
    }

    private static void isNoneWhenClosed(Checks checks) {
        Store x = checks.store(2);
        x.put(1);
        x.crash(16).due(0);
        x.dueLiving(-1, -1, -1);
        x.living(-1).due(-1);
        x.reopen().due(1);
        x.dueLiving(16, 0, -1);
    }
}
