/** Promise 6: find. */
final class Promise06FindTest {
    public static void main(String[] args) {
        Checks checks = Checks.ofPromise(6);
        checks.sentence("Byte i of these;", Promise06FindTest::tellsBytes);
        checks.sentence("Byte i of these;", Promise06FindTest::tellsBytesOfAMoment);
        checks.sentence("NONE likewise,", Promise06FindTest::isNoneIfNothing);
        checks.sentence("NONE likewise,", Promise06FindTest::isNoneForNoKeyOrSnapshot);
        checks.sentence("NONE likewise,", Promise06FindTest::isNoneWhenClosed);
        checks.sentence("or if there are not so many.", Promise06FindTest::isNoneOutsideTheBytes);
        checks.end();
    }

    private static void tellsBytes(Checks checks) {
        Store x = checks.store(1);
        int[] contents = {0, 1, 127, 128, 129, 254, 255, 2, 0, 0, 3, 4, 5, 6, 7, 8, 9, 10, 11, 200};
        x.write(999, contents);
        for (int i = 0; i < 20; i++) {
            x.find(-1, 999, i).due(contents[i]);
        }
    }

    private static void tellsBytesOfAMoment(Checks checks) {
        Store x = checks.store(3);
        x.snapshot();
        x.write(5, 10);
        x.snapshot();
        x.write(5, 20, 21);
        x.drop(5);
        x.snapshot();
        x.write(5, 30, 31, 32);
        x.snapshot();
        x.find(0, 5, 0).due(-1);
        x.find(1, 5, 0).due(10);
        x.find(1, 5, 1).due(-1);
        x.find(2, 5, 0).due(-1);
        x.find(3, 5, 2).due(32);
        x.find(-1, 5, 1).due(31);
    }

    private static void isNoneIfNothing(Checks checks) {
        Store x = checks.store(1);
        x.find(-1, 5, 0).due(-1);
        x.write(5, 1);
        x.find(-1, 6, 0).due(-1);
        x.drop(5);
        x.find(-1, 5, 0).due(-1);
    }

    private static void isNoneForNoKeyOrSnapshot(Checks checks) {
        Store x = checks.store(1);
        x.write(0, 1);
        x.write(999, 1);
        x.snapshot();
        int[] keys = {-1, 1000, Integer.MIN_VALUE, Integer.MAX_VALUE};
        for (int key : keys) {
            x.find(-1, key, 0).due(-1);
            x.find(0, key, 0).due(-1);
        }
        int[] snapshots = {-2, 1, 3, 4, Integer.MIN_VALUE, Integer.MAX_VALUE};
        for (int snapshot : snapshots) {
            x.find(snapshot, 0, 0).due(-1);
        }
        x.find(0, 0, 0).due(1);
        x.release(0);
        x.find(0, 0, 0).due(-1);
    }

    private static void isNoneWhenClosed(Checks checks) {
        Store x = checks.store(1);
        x.write(0, 1);
        x.snapshot();
        x.crash(17).due(0);
        x.find(-1, 0, 0).due(-1);
        x.find(0, 0, 0).due(-1);
        x.reopen().due(1);
        x.find(-1, 0, 0).due(1);
        x.find(0, 0, 0).due(-1);
    }

    private static void isNoneOutsideTheBytes(Checks checks) {
        Store x = checks.store(1);
        x.put(0);
        x.write(1, 9);
        x.write(2, Rows.twenty(9));
        int[] sizes = {0, 1, 20};
        for (int key = 0; key < 3; key++) {
            x.find(-1, key, sizes[key] - 1).due(sizes[key] == 0 ? -1 : 9);
            x.find(-1, key, sizes[key]).due(-1);
            x.find(-1, key, sizes[key] + 1).due(-1);
            x.find(-1, key, -1).due(-1);
            x.find(-1, key, Integer.MIN_VALUE).due(-1);
            x.find(-1, key, Integer.MAX_VALUE).due(-1);
        }
    }
}
