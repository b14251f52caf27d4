/** Promise 14: poke. */
final class Promise14PokeTest {
    private static final int[][] NO_BYTES = {
        {-1, 0}, {3, 0}, {0, -1}, {0, 200}, {2, 200}, {-1, -1}, {3, 200}, {1, 400}, {-1, 200}, {1, -200}, {-1, 199},
        {Integer.MIN_VALUE, 0}, {Integer.MAX_VALUE, 0}, {0, Integer.MIN_VALUE}, {0, Integer.MAX_VALUE}};

    public static void main(String[] args) {
        Checks checks = Checks.ofPromise(14);
        checks.sentence("Byte i of a SEGMENT is xor a mask: what it is then.", Promise14PokeTest::pokes);
        checks.sentence("Byte i of a SEGMENT is xor a mask:", Promise14PokeTest::pokesTheFirstAndTheLast);
        checks.sentence("-3 it is not CLOSED;", Promise14PokeTest::refusesWhenOpen);
        checks.sentence("-2 the mask is not 0 .. 255.", Promise14PokeTest::refusesOtherMasks);
        checks.sentence("ArrayIndexOutOfBounds first: there is no such byte.", Promise14PokeTest::throwsFirst);
        checks.end();
    }

    private static void pokes(Checks checks) {
        Store x = checks.store(2);
        x.write(1, 0x5A);
        x.crash(17).due(0);
        x.poke(0, 8, 0).due(0x5A);
        x.poke(0, 8, 255).due(0xA5);
        x.poke(0, 8, 0xF0).due(0x55);
        x.byteAt(0, 8).due(0x55);
        x.byteAt(0, 7).due(1);
        x.poke(0, 8, 0x0F).due(0x5A);
        x.used(0).due(17);
        x.reopen().due(1);
        x.badAt().due(-1);
        x.find(-1, 1, 0).due(0x5A);
    }

    private static void pokesTheFirstAndTheLast(Checks checks) {
        Store x = checks.closedStore(3);
        for (int segment = 0; segment < 3; segment++) {
            x.poke(segment, 0, 1 + segment).due(1 + segment);
            x.poke(segment, 199, 128 + segment).due(128 + segment);
            x.count(1).due(segment + 1);
        }
        for (int segment = 0; segment < 3; segment++) {
            x.byteAt(segment, 0).due(1 + segment);
            x.byteAt(segment, 1).due(0);
            x.byteAt(segment, 198).due(0);
            x.byteAt(segment, 199).due(128 + segment);
            x.used(segment).due(0);
        }
    }

    private static void refusesWhenOpen(Checks checks) {
        Store x = checks.store(1);
        x.write(1, 1);
        x.poke(0, 0, 1).due(-3);
        x.poke(0, 199, 0).due(-3);
        x.poke(0, 0, 255).due(-3);
        x.poke(0, 0, 256).due(-3);
        x.poke(0, 0, -1).due(-3);
        x.byteAt(0, 0).due(1);
        x.crash(17).due(0);
        x.poke(0, 0, 3).due(2);
        x.reopen().due(0);
        x.poke(0, 0, 1).due(-3);
        x.byteAt(0, 0).due(2);
    }

    private static void refusesOtherMasks(Checks checks) {
        Store x = checks.closedStore(1);
        x.poke(0, 5, 77).due(77);
        int[] outside = {-1, -2, 256, 257, 511, Integer.MIN_VALUE, Integer.MAX_VALUE};
        for (int mask : outside) {
            x.poke(0, 5, mask).due(-2);
            x.byteAt(0, 5).due(77);
        }
        x.poke(0, 5, 0).due(77);
        x.poke(0, 5, 255).due(77 ^ 255);
    }

    private static void throwsFirst(Checks checks) {
        Store x = checks.store(3);
        for (int[] told : NO_BYTES) {
            x.poke(told[0], told[1], 1).dueThrown();
            x.poke(told[0], told[1], -1).dueThrown();
        }
        x.crash(0).due(0);
        for (int[] told : NO_BYTES) {
            x.poke(told[0], told[1], 1).dueThrown();
            x.poke(told[0], told[1], 256).dueThrown();
        }
        x.count(1).due(0);
        x.reopen().due(0);
        x.badAt().due(-1);
        for (int n = 1; n <= 12; n++) {
            Store y = checks.closedStore(n);
            y.poke(n - 1, 199, 1).due(1);
            y.poke(n, 0, 1).dueThrown();
        }
    }
}
