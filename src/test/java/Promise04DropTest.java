/** Promise 4: drop. */
final class Promise04DropTest {
    public static void main(String[] args) {
        Checks checks = Checks.ofPromise(4);
        checks.sentence("A GRAVE of a KEY:", Promise04DropTest::writesAGrave);
        checks.sentence("its NUMBER.", Promise04DropTest::answersTheNumber);
        checks.sentence("-3;", Promise04DropTest::refusesWhenClosed);
        checks.sentence("-1 the KEY has nothing now", Promise04DropTest::refusesAKeyWithNothing);
        checks.sentence("(or is none);", Promise04DropTest::refusesWhatIsNoKey);
        checks.sentence("-4 likewise.", Promise04DropTest::refusesWithoutRoom);
        checks.sentence("-4 likewise.", Promise04DropTest::refusesBehindTheLastNumber);
        checks.end();
    }

    private static void writesAGrave(Checks checks) {
        Store x = checks.store(1);
        x.write(700, 5);
        x.feed(6, 1);
        x.drop(700);
        x.count(6).due(1);
        x.dueBytes(0, 17, Rows.grave(700, 2));
        x.dueZeros(0, 33, 200);
        x.used(0).due(33);
        x.count(3).due(33);
        x.length(-1, 700).due(-1);
        x.put(700).due(3);
        x.find(-1, 700, 0).due(6);
        x.drop(700).due(4);
        x.length(-1, 700).due(-1);
    }

    private static void answersTheNumber(Checks checks) {
        Store x = checks.store(2);
        x.put(0).due(1);
        x.put(999).due(2);
        x.drop(0).due(3);
        x.drop(999).due(4);
        x.count(2).due(4);
        x.put(0).due(5);
        x.drop(0).due(6);
    }

    private static void refusesWhenClosed(Checks checks) {
        Store x = checks.store(1);
        x.put(1);
        x.crash(16).due(0);
        x.drop(1).due(-3);
        x.drop(2).due(-3);
        x.drop(-1).due(-3);
        x.drop(1000).due(-3);
        x.reopen().due(1);
    }

    private static void refusesAKeyWithNothing(Checks checks) {
        Store x = checks.store(2);
        x.drop(5).due(-1);
        x.put(5).due(1);
        x.snapshot();
        x.drop(5).due(2);
        x.drop(5).due(-1);
        x.length(0, 5).due(0);
        x.drop(6).due(-1);
        x.used(0).due(32);
        x.count(2).due(2);
        x.put(5).due(3);
        x.drop(5).due(4);
        x.drop(5).due(-1);
    }

    private static void refusesWhatIsNoKey(Checks checks) {
        Store x = checks.store(1);
        x.put(0);
        x.put(999);
        int[] others = {-1, 1000, 1001, 65536, Integer.MIN_VALUE, Integer.MAX_VALUE};
        for (int key : others) {
            x.drop(key).due(-1);
        }
        x.used(0).due(32);
    }

    private static void refusesWithoutRoom(Checks checks) {
        Store x = checks.store(1);
        x.writeLongs(0, 5);
        x.drop(0).due(6);
        x.used(0).due(196);
        x.drop(1).due(-4);
        x.drop(0).due(-1);
        x.drop(1000).due(-1);
        x.count(2).due(6);
        x.length(-1, 1).due(20);
        Store y = checks.store(1);
        for (int i = 0; i < 11; i++) {
            y.put(i);
        }
        y.write(11, 1, 2, 3, 4, 5, 6, 7, 8).due(12);
        y.used(0).due(200);
        y.drop(3).due(-4);
        Store z = checks.store(1);
        for (int i = 0; i < 10; i++) {
            z.put(i);
        }
        z.write(10, 1, 2, 3, 4, 5, 6, 7, 8).due(11);
        z.drop(3).due(12);
        z.used(0).due(200);
    }

    private static void refusesBehindTheLastNumber(Checks checks) {
        Store x = checks.closedStore(2);
        x.forge(0, 0, Rows.row(5, Integer.MAX_VALUE - 1, 1));
        x.forge(0, 17, Rows.row(6, 1));
        x.reopen().due(2);
        x.drop(5).due(Integer.MAX_VALUE);
        x.drop(6).due(-4);
        x.drop(5).due(-1);
        x.drop(1000).due(-1);
        x.length(-1, 6).due(0);
        x.count(2).due(Integer.MAX_VALUE);
        x.dueUsed(33, 16);
    }
}
