/** Promise 3: put. */
final class Promise03PutTest {
    public static void main(String[] args) {
        Checks checks = Checks.ofPromise(3);
        checks.sentence("A row of a KEY with the CONTENTS at hand,", Promise03PutTest::writesARow);
        checks.sentence("which are empty then:", Promise03PutTest::emptiesTheContents);
        checks.sentence("its NUMBER.", Promise03PutTest::answersTheNumber);
        checks.sentence("-3;", Promise03PutTest::refusesWhenClosed);
        checks.sentence("-2;", Promise03PutTest::refusesWhatIsNoKey);
        checks.sentence("-4", Promise03PutTest::refusesWithoutRoom);
        checks.sentence("(also if the one before has the NUMBER 2147483647).",
                Promise03PutTest::refusesBehindTheLastNumber);
        checks.end();
    }

    private static void writesARow(Checks checks) {
        Store x = checks.store(2);
        x.write(999, 1, 0, 255);
        x.write(0);
        x.write(256, 128, 127);
        x.write(0, Rows.twenty(200));
        x.dueBytes(0, 0, Rows.row(999, 1, 1, 0, 255));
        x.dueBytes(0, 19, Rows.row(0, 2));
        x.dueBytes(0, 35, Rows.row(256, 3, 128, 127));
        x.dueBytes(0, 53, Rows.row(0, 4, Rows.twenty(200)));
        x.dueZeros(0, 89, 200);
        x.dueCounts(3, 1, 4, 89, 0, 0, 0, 0);
        x.length(-1, 0).due(20);
    }

    private static void emptiesTheContents(Checks checks) {
        Store x = checks.store(1);
        x.write(1, 1, 2, 3);
        x.count(6).due(0);
        x.put(2).due(2);
        x.length(-1, 2).due(0);
        x.feed(9, 1).due(1);
        x.put(3).due(3);
        x.length(-1, 3).due(1);
        x.find(-1, 3, 0).due(9);
        x.write(4, Rows.twenty(7)).due(4);
        x.feed(1, 4).due(4);
    }

    private static void answersTheNumber(Checks checks) {
        Store x = checks.store(3);
        for (int number = 1; number <= 36; number++) {
            x.put(number % 3).due(number);
            x.count(2).due(number);
        }
        x.put(0).due(-4);
        x.count(2).due(36);
    }

    private static void refusesWhenClosed(Checks checks) {
        Store x = checks.store(1);
        x.feed(1, 3);
        x.crash(0);
        x.put(1).due(-3);
        x.put(-1).due(-3);
        x.put(1000).due(-3);
        x.count(6).due(3);
        x.count(2).due(0);
        x.reopen();
        x.put(1).due(1);
        x.length(-1, 1).due(3);
    }

    private static void refusesWhatIsNoKey(Checks checks) {
        Store x = checks.store(1);
        x.feed(1, 3);
        int[] outside = {-1, 1000, 1001, 65536, Integer.MIN_VALUE, Integer.MAX_VALUE};
        for (int key : outside) {
            x.put(key).due(-2);
        }
        x.dueCounts(0, 0, 0, 0, 0, 0, 3, -1);
        x.put(0).due(1);
        x.put(999).due(2);
    }

    private static void refusesWithoutRoom(Checks checks) {
        Store x = checks.store(1);
        x.writeLongs(0, 5);
        x.write(9, 1, 2, 3, 4, 5).due(-4);
        x.dueCounts(5, 1, 5, 180, 0, 0, 5, 0);
        x.put(1000).due(-2);
        x.dueZeros(0, 180, 200);
        Store y = checks.store(1);
        y.writeLongs(0, 5);
        y.write(9, 1, 2, 3, 4).due(6);
        y.used(0).due(200);
        y.put(9).due(-4);
        y.count(6).due(0);
    }

    private static void refusesBehindTheLastNumber(Checks checks) {
        Store x = checks.closedStore(2);
        x.forge(0, 0, Rows.row(5, Integer.MAX_VALUE - 1, 1));
        x.reopen().due(1);
        x.write(6, 8).due(Integer.MAX_VALUE);
        x.write(6, 9).due(-4);
        x.put(-1).due(-2);
        x.put(1000).due(-2);
        x.dueCounts(2, 2, Integer.MAX_VALUE, 17, 0, 0, 1, 1);
        x.dueUsed(17, 17);
        x.find(-1, 6, 0).due(8);
        x.crash(1000);
        x.put(6).due(-3);
    }
}
