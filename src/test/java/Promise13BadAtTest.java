/** Promise 13: badAt. */
final class Promise13BadAtTest {
    public static void main(String[] args) {
        Checks checks = Checks.ofPromise(13);
        checks.sentence("The NUMBER, as it stands there,", Promise13BadAtTest::tellsTheNumberAsItStands);
        checks.sentence("of the first BAD row", Promise13BadAtTest::tellsTheFirstBadRow);
        checks.sentence("that the last REOPENING met", Promise13BadAtTest::tellsOfTheLastReopening);
        checks.sentence("(0 if it has not so many bytes);", Promise13BadAtTest::is0WithoutSoManyBytes);
        checks.sentence("NONE if it met none,", Promise13BadAtTest::isNoneIfItMetNone);
        checks.sentence("or there was none.", Promise13BadAtTest::isNoneWithoutReopening);
        checks.end();
    }

    private static void tellsTheNumberAsItStands(Checks checks) {
        int[] numbers = {0, 1, 255, 256, 0x01020304, Integer.MAX_VALUE, -1, -2, Integer.MIN_VALUE};
        for (int number : numbers) {
            Store x = checks.closedStore(1);
            x.forge(0, 0, Rows.row(1000, number));
            x.reopen().due(0);
            x.badAt().due(number);
            Store other = checks.closedStore(1);
            other.forge(0, 0, Rows.bytes(77, 5, number));
            other.reopen().due(0);
            other.badAt().due(number);
        }
    }

    private static void tellsTheFirstBadRow(Checks checks) {
        Store x = checks.store(3);
        x.writeLongs(0, 10);
        x.crash(1000).due(0);
        x.poke(1, 9, 1);
        x.poke(0, 36 * 4 + 9, 1);
        x.poke(0, 36 * 3 + 9, 1);
        x.reopen().due(7);
        x.badAt().due(4);
        Store minusOne = checks.closedStore(2);
        minusOne.forge(0, 0, Rows.row(1, -1));
        minusOne.forge(0, 16, Rows.row(1, -6));
        minusOne.forge(1, 0, Rows.row(1, -5));
        minusOne.reopen().due(0);
        minusOne.badAt().due(-1);
        Store zero = checks.closedStore(2);
        zero.forge(0, 0, Rows.row(1, 0));
        zero.forge(1, 0, Rows.row(1, -5));
        zero.reopen().due(0);
        zero.badAt().due(0);
    }

    private static void tellsOfTheLastReopening(Checks checks) {
        Store x = checks.store(3);
        x.writeLongs(0, 10);
        x.crash(1000).due(0);
        x.poke(0, 36 * 3 + 9, 1);
        x.poke(1, 9, 1);
        x.reopen().due(8);
        x.badAt().due(4);
        x.put(77).due(11);
        x.badAt().due(4);
        x.crash(1000).due(0);
        x.badAt().due(4);
        x.poke(0, 36 * 3 + 9, 1);
        x.badAt().due(4);
        x.reopen().due(10);
        x.badAt().due(6);
        x.reopen().due(-3);
        x.badAt().due(6);
    }

    /** Its four bytes are there up to the place 193, and not from 194 on. */
    private static void is0WithoutSoManyBytes(Checks checks) {
        for (int at = 185; at < 200; at++) {
            Store x = checks.store(1);
            x.writeLongs(0, 4);
            int more = at - 144 - 32;
            x.write(5, new int[more / 2]);
            x.write(6, new int[more - more / 2]);
            x.used(0).due(at);
            x.crash(1000).due(0);
            for (int i = at; i < 200; i++) {
                x.poke(0, i, 100 + i - at);
            }
            x.reopen().due(6);
            x.badAt().due(at <= 193 ? 0x6768696A : 0);
            x.used(0).due(at);
        }
    }

    private static void isNoneIfItMetNone(Checks checks) {
        Store x = checks.store(2);
        x.write(1, 1);
        x.crash(16).due(1);
        x.reopen().due(0);
        x.badAt().due(1);
        x.crash(0).due(0);
        x.poke(0, 0, 1).due(0);
        x.reopen().due(0);
        x.badAt().due(-1);
        x.write(1, 1);
        x.crash(17).due(0);
        x.reopen().due(1);
        x.badAt().due(-1);
    }

    private static void isNoneWithoutReopening(Checks checks) {
        Store x = checks.store(1);
        x.badAt().due(-1);
        x.write(1, 1);
        x.badAt().due(-1);
        x.crash(5).due(12);
        x.badAt().due(-1);
        x.poke(0, 0, 8);
        x.badAt().due(-1);
    }
}
