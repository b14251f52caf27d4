/** Promises 14 and 15: poke, byteAt. */
final class BytesTest {
    private static final Checks CHECKS = new Checks("BytesTest");
    private static final int[][] NO_BYTES = {
        {-1, 0}, {3, 0}, {0, -1}, {0, 200}, {2, 200}, {-1, -1}, {3, 200}, {1, 400}, {-1, 200}, {1, -200},
        {Integer.MIN_VALUE, 0}, {Integer.MAX_VALUE, 0}, {0, Integer.MIN_VALUE}, {0, Integer.MAX_VALUE}};

    public static void main(String[] args) {
        promise14Pokes();
        promise14Refuses();
        promise15TellsBytes();
        promises14And15Throw();
        CHECKS.end();
    }

    private static void promise14Pokes() {
        GraveSegments x = new GraveSegments(3);
        x.crash(0);
        CHECKS.due("poke", x.poke(0, 0, 255), 255);
        CHECKS.due("poke again", x.poke(0, 0, 0xF0), 0x0F);
        CHECKS.due("poke of nothing", x.poke(0, 0, 0), 0x0F);
        CHECKS.due("poke of the last", x.poke(2, 199, 128), 128);
        CHECKS.due("byteAt", x.byteAt(0, 0), 0x0F);
        CHECKS.due("byteAt of the last", x.byteAt(2, 199), 128);
        CHECKS.due("byteAt of another", x.byteAt(1, 0), 0);
        CHECKS.due("IN USE", x.count(1), 1);
        CHECKS.due("poke back", x.poke(0, 0, 0x0F), 0);
        CHECKS.due("IN USE", x.count(1), 0);
        CHECKS.due("used", x.used(0), 0);
    }

    private static void promise14Refuses() {
        GraveSegments x = new GraveSegments(1);
        Rows.put(x, 1, 1);
        CHECKS.due("poke when open", x.poke(0, 0, 1), -3);
        CHECKS.due("poke outside when open", x.poke(0, 0, 256), -3);
        CHECKS.due("byteAt behind refusals", x.byteAt(0, 0), 1);
        x.crash(100);
        int[] outside = {-1, 256, 257, Integer.MIN_VALUE, Integer.MAX_VALUE};
        for (int mask : outside) {
            CHECKS.due("poke of " + mask, x.poke(0, 0, mask), -2);
        }
        CHECKS.due("byteAt behind refusals", x.byteAt(0, 0), 1);
        x.reopen();
        CHECKS.due("poke opened again", x.poke(0, 0, 1), -3);
    }

    private static void promise15TellsBytes() {
        GraveSegments x = new GraveSegments(2);
        Rows.put(x, 515, 250, 0, 128);
        int[] want = Rows.row(515, 1, 250, 0, 128);
        for (int i = 0; i < 200; i++) {
            CHECKS.due("byteAt(0, " + i + ")", x.byteAt(0, i), i < want.length ? want[i] : 0);
            CHECKS.due("byteAt(1, " + i + ")", x.byteAt(1, i), 0);
        }
        x.crash(4);
        for (int i = 0; i < 200; i++) {
            CHECKS.due("byteAt(0, " + i + ") when closed", x.byteAt(0, i), i < 4 ? want[i] : 0);
        }
    }

    private static void promises14And15Throw() {
        GraveSegments x = new GraveSegments(3);
        for (int[] told : NO_BYTES) {
            String where = "(" + told[0] + ", " + told[1] + ")";
            CHECKS.dueThrow("byteAt" + where, () -> x.byteAt(told[0], told[1]));
            CHECKS.dueThrow("poke when open" + where, () -> x.poke(told[0], told[1], 1));
            CHECKS.dueThrow("poke outside when open" + where, () -> x.poke(told[0], told[1], -1));
        }
        x.crash(0);
        for (int[] told : NO_BYTES) {
            String where = "(" + told[0] + ", " + told[1] + ")";
            CHECKS.dueThrow("byteAt when closed" + where, () -> x.byteAt(told[0], told[1]));
            CHECKS.dueThrow("poke" + where, () -> x.poke(told[0], told[1], 1));
            CHECKS.dueThrow("poke outside" + where, () -> x.poke(told[0], told[1], 256));
        }
        CHECKS.due("reopen behind what was thrown", x.reopen(), 0);
        CHECKS.due("badAt behind what was thrown", x.badAt(), -1);
    }
}
