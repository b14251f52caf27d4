/** Promises 9, 10, 12 and 13: sync, crash, reopen, badAt. */
final class CrashTest {
    private static final Checks CHECKS = new Checks("CrashTest");

    public static void main(String[] args) {
        promise9Syncs();
        promise10KeepsTheFirstBytes();
        promise10GoesOverSegments();
        promise10Refuses();
        promise10ClosesAll();
        promise12FindsGoodRows();
        promise12LeavesBadRows();
        promise12GoesOnBehindBadRows();
        promise12StopsAtWhatIsNoRow();
        promise12BeginsAnew();
        promise12ReadsWhatStoodBehind();
        promise13TellsTheFirstBadRow();
        promise13TellsTheNumberAsItStands();
        CHECKS.end();
    }

    private static void promise9Syncs() {
        GraveSegments x = new GraveSegments(2);
        CHECKS.due("sync of nothing", x.sync(), 0);
        Rows.put(x, 1, 1);
        Rows.put(x, 2, 1, 2);
        x.drop(1);
        CHECKS.due("HELD BACK", x.count(3), 51);
        CHECKS.due("sync", x.sync(), 51);
        CHECKS.due("HELD BACK behind sync", x.count(3), 0);
        CHECKS.due("sync again", x.sync(), 0);
        Rows.put(x, 3);
        CHECKS.due("crash behind sync", x.crash(0), 16);
        CHECKS.due("sync when closed", x.sync(), -3);
        CHECKS.due("reopen", x.reopen(), 1);
        CHECKS.due("what was synced", x.length(-1, 2), 2);
    }

    private static void promise10KeepsTheFirstBytes() {
        for (int kept = 0; kept <= 60; kept++) {
            GraveSegments x = new GraveSegments(1);
            Rows.put(x, 1, 255);
            x.sync();
            Rows.put(x, 2, 255, 254);
            x.drop(1);
            int[] before = new int[200];
            for (int i = 0; i < 200; i++) {
                before[i] = x.byteAt(0, i);
            }
            CHECKS.due("crash(" + kept + ")", x.crash(kept), Math.max(0, 34 - kept));
            for (int i = 0; i < 200; i++) {
                int want = i < 17 + kept ? before[i] : 0;
                CHECKS.due("byteAt(0, " + i + ") behind crash(" + kept + ")", x.byteAt(0, i), want);
            }
            CHECKS.due("used behind crash(" + kept + ")", x.used(0), 51);
            int keys = kept < 18 ? 1 : kept < 34 ? 2 : 1;
            CHECKS.due("reopen behind crash(" + kept + ")", x.reopen(), keys);
            CHECKS.due("NUMBER behind crash(" + kept + ")", x.count(2), kept < 18 ? 1 : kept < 34 ? 2 : 3);
        }
    }

    private static void promise10GoesOverSegments() {
        GraveSegments x = new GraveSegments(3);
        x.crash(0);
        Rows.set(x, 0, 0, Rows.row(1, 1));
        Rows.set(x, 1, 1, 9, 9);
        x.reopen();
        for (int i = 0; i < 6; i++) {
            Rows.putLong(x, 500 + i);
        }
        CHECKS.due("HELD BACK", x.count(3), 216);
        CHECKS.due("crash", x.crash(181), 35);
        CHECKS.due("the last of the first SEGMENT", x.byteAt(1, 179) == 0 ? 0 : 1, 1);
        CHECKS.due("the first of the second one", x.byteAt(2, 0), 1);
        for (int i = 1; i < 200; i++) {
            CHECKS.due("byte " + i + " of the second one", x.byteAt(2, i), 0);
        }
        CHECKS.due("reopen", x.reopen(), 6);
        CHECKS.due("badAt", x.badAt(), 0);
        CHECKS.due("used of the second one", x.used(2), 16);
        CHECKS.due("IN USE", x.count(1), 3);
    }

    private static void promise10Refuses() {
        GraveSegments x = new GraveSegments(1);
        Rows.put(x, 1, 1);
        CHECKS.due("crash(-1)", x.crash(-1), -2);
        CHECKS.due("crash(least)", x.crash(Integer.MIN_VALUE), -2);
        CHECKS.due("open still", x.count(4), 0);
        CHECKS.due("HELD BACK still", x.count(3), 17);
        CHECKS.due("crash(most)", x.crash(Integer.MAX_VALUE), 0);
        CHECKS.due("crash when closed", x.crash(0), -3);
        CHECKS.due("crash(-1) when closed", x.crash(-1), -3);
        CHECKS.due("reopen", x.reopen(), 1);
        CHECKS.due("what stayed is not HELD BACK", x.crash(0), 0);
        CHECKS.due("reopen again", x.reopen(), 1);
    }

    private static void promise10ClosesAll() {
        GraveSegments x = new GraveSegments(2);
        Rows.put(x, 1, 1);
        x.snapshot();
        x.feed(1, 3);
        x.crash(5);
        int[] counts = {0, 1, 1, 0, 1, 0, 3, -1};
        for (int what = 0; what < counts.length; what++) {
            CHECKS.due("count(" + what + ") when closed", x.count(what), counts[what]);
        }
        CHECKS.due("living when closed", x.living(0), -1);
        CHECKS.due("used when closed", x.used(0), 17);
        CHECKS.due("clean when closed", x.clean(0, 1, -1), -3);
        CHECKS.due("badAt when closed", x.badAt(), -1);
        CHECKS.due("byteAt when closed", x.byteAt(0, 0), 1);
    }

    private static void promise12FindsGoodRows() {
        GraveSegments x = new GraveSegments(3);
        CHECKS.due("reopen of what is open", x.reopen(), -3);
        x.crash(0);
        CHECKS.due("reopen of nothing", x.reopen(), 0);
        CHECKS.due("NUMBER of nothing", x.count(2), 0);
        CHECKS.due("put", Rows.put(x, 0, 1), 1);
        CHECKS.due("put", Rows.putLong(x, 999), 2);
        CHECKS.due("put", Rows.put(x, 3), 3);
        CHECKS.due("drop", x.drop(3), 4);
        x.sync();
        x.crash(0);
        CHECKS.due("reopen", x.reopen(), 2);
        CHECKS.due("badAt", x.badAt(), -1);
        CHECKS.due("reopen of what is open again", x.reopen(), -3);
        CHECKS.due("length", x.length(-1, 999), 20);
        CHECKS.due("find", x.find(-1, 0, 0), 1);
        CHECKS.due("used", x.used(0), 85);
        CHECKS.due("living", x.living(0), 69);
        CHECKS.due("the next NUMBER", x.put(3), 5);
        CHECKS.due("it is in a FREE one", x.used(1), 16);
    }

    private static void promise12LeavesBadRows() {
        int[] row = Rows.row(258, 0x01020304, 7, 8);
        for (int i = 0; i < row.length; i++) {
            for (int bit = 0; bit < 8; bit++) {
                GraveSegments x = closedWith(row);
                x.poke(0, i, 1 << bit);
                CHECKS.due("reopen with bit " + bit + " of byte " + i, x.reopen(), 0);
                CHECKS.due("NUMBER with bit " + bit + " of byte " + i, x.count(2), 0);
            }
        }
        dueBad("a KEY of 1000", Rows.row(1000, 3), 3);
        dueBad("a KEY of 65535", Rows.row(65535, 3), 3);
        dueBad("a NUMBER of 0", Rows.row(1, 0), 0);
        dueBad("a NUMBER below 0", Rows.row(1, -7), -7);
        dueBad("21 bytes", Rows.row(1, 3, new int[21]), 3);
        dueBad("a GRAVE with CONTENTS", Rows.bytes(2, 1, 3, 9), 3);
        dueBad("a kind of 3", Rows.bytes(3, 1, 3), 3);
        dueBad("a kind of 255", Rows.bytes(255, 1, 3), 3);
        GraveSegments x = closedWith(Rows.row(999, Integer.MAX_VALUE, new int[20]));
        CHECKS.due("reopen with the greatest row", x.reopen(), 1);
        CHECKS.due("badAt with the greatest row", x.badAt(), -1);
        x = closedWith(Rows.row(0, 1));
        CHECKS.due("reopen with the least row", x.reopen(), 1);
    }

    private static void promise12GoesOnBehindBadRows() {
        GraveSegments x = new GraveSegments(2);
        Rows.put(x, 1, 1);
        Rows.put(x, 2, 1, 2);
        Rows.put(x, 3, 1, 2, 3);
        x.sync();
        x.crash(0);
        x.poke(0, 17 + 9, 1);
        CHECKS.due("reopen", x.reopen(), 2);
        CHECKS.due("badAt", x.badAt(), 2);
        CHECKS.due("used", x.used(0), 54);
        CHECKS.due("living", x.living(0), 36);
        CHECKS.due("length of a BAD one", x.length(-1, 2), -1);
        CHECKS.due("length behind it", x.length(-1, 3), 3);
        GraveSegments y = closedWith(Rows.bytes(2, 1, 3, 9, 9));
        Rows.set(y, 0, 18, Rows.row(4, 9));
        CHECKS.due("reopen behind a GRAVE with CONTENTS", y.reopen(), 1);
        CHECKS.due("used behind a GRAVE with CONTENTS", y.used(0), 34);
    }

    private static void promise12StopsAtWhatIsNoRow() {
        GraveSegments x = new GraveSegments(3);
        x.crash(0);
        Rows.set(x, 0, 0, Rows.row(1, 1));
        Rows.set(x, 0, 16, Rows.bytes(3, 2, 2));
        Rows.set(x, 0, 32, Rows.row(3, 3));
        Rows.set(x, 1, 0, Rows.row(4, 4, new int[21]));
        Rows.set(x, 1, 37, Rows.row(5, 5));
        Rows.set(x, 2, 0, Rows.row(6, 6));
        Rows.set(x, 2, 17, Rows.row(7, 7));
        CHECKS.due("reopen", x.reopen(), 2);
        CHECKS.due("used up to another kind", x.used(0), 16);
        CHECKS.due("used up to 21 bytes", x.used(1), 0);
        CHECKS.due("used up to a byte 0", x.used(2), 16);
        CHECKS.due("NUMBER", x.count(2), 6);
        CHECKS.due("IN USE", x.count(1), 3);
        CHECKS.due("put without a FREE one", x.put(1), -4);
        for (int at = 170; at < 200; at++) {
            dueStopNearTheEnd(at, 1);
            dueStopNearTheEnd(at, 2);
        }
    }

    /** A kind alone, with 0 behind it, is a BAD row of 16 bytes if so many are left. */
    private static void dueStopNearTheEnd(int at, int kind) {
        GraveSegments x = new GraveSegments(1);
        x.crash(0);
        int rows = fill(x, at);
        x.poke(0, at, kind);
        CHECKS.due("reopen with a kind at " + at, x.reopen(), rows);
        CHECKS.due("used with a kind at " + at, x.used(0), at + 16 <= 200 ? at + 16 : at);
        CHECKS.due("badAt with a kind at " + at, x.badAt(), 0);
    }

    private static void promise12BeginsAnew() {
        GraveSegments x = new GraveSegments(3);
        Rows.put(x, 1, 1);
        x.snapshot();
        Rows.put(x, 1, 2);
        x.drop(1);
        CHECKS.due("living before", x.living(0), 33);
        x.crash(33);
        CHECKS.due("reopen", x.reopen(), 1);
        CHECKS.due("WRITTEN", x.count(7), -1);
        CHECKS.due("open", x.count(5), 0);
        CHECKS.due("NUMBER", x.count(2), 1);
        CHECKS.due("HELD BACK", x.count(3), 0);
        CHECKS.due("badAt", x.badAt(), 2);
        CHECKS.due("used", x.used(0), 34);
        CHECKS.due("living", x.living(0), 17);
        CHECKS.due("a NUMBER again", x.put(2), 2);
        CHECKS.due("WRITTEN", x.count(7), 1);
    }

    /** A FREE SEGMENT may have bytes behind its first one: they count again when all is opened. */
    private static void promise12ReadsWhatStoodBehind() {
        GraveSegments x = new GraveSegments(1);
        Rows.put(x, 1, 1);
        Rows.put(x, 2, 2);
        x.sync();
        x.crash(0);
        x.poke(0, 0, 1);
        CHECKS.due("IN USE", x.count(1), 0);
        CHECKS.due("reopen of a FREE one", x.reopen(), 0);
        CHECKS.due("used of a FREE one", x.used(0), 0);
        CHECKS.due("put", Rows.put(x, 3, 3), 1);
        CHECKS.due("used", x.used(0), 17);
        CHECKS.due("KEYS", x.count(0), 1);
        CHECKS.due("crash", x.crash(17), 0);
        CHECKS.due("reopen with what stood behind", x.reopen(), 2);
        CHECKS.due("find of it", x.find(-1, 2, 0), 2);
        CHECKS.due("used with it", x.used(0), 34);
        CHECKS.due("NUMBER with it", x.count(2), 2);
    }

    private static void promise13TellsTheFirstBadRow() {
        GraveSegments x = new GraveSegments(3);
        CHECKS.due("badAt of a new one", x.badAt(), -1);
        for (int i = 0; i < 10; i++) {
            Rows.putLong(x, i);
        }
        x.sync();
        x.crash(0);
        CHECKS.due("badAt before a reopen", x.badAt(), -1);
        x.poke(0, 36 * 3 + 9, 1);
        x.poke(0, 36 * 4 + 9, 1);
        x.poke(1, 9, 1);
        CHECKS.due("reopen", x.reopen(), 7);
        CHECKS.due("badAt", x.badAt(), 4);
        x.crash(0);
        CHECKS.due("badAt of the last reopen", x.badAt(), 4);
        x.poke(0, 36 * 3 + 9, 1);
        x.poke(0, 36 * 4 + 9, 1);
        CHECKS.due("reopen", x.reopen(), 9);
        CHECKS.due("badAt", x.badAt(), 6);
        x.crash(0);
        x.poke(1, 9, 1);
        CHECKS.due("reopen", x.reopen(), 10);
        CHECKS.due("badAt with none", x.badAt(), -1);
    }

    private static void promise13TellsTheNumberAsItStands() {
        dueBad("all bits", Rows.row(1, -1), -1);
        dueBad("the least NUMBER", Rows.row(1, Integer.MIN_VALUE), Integer.MIN_VALUE);
        GraveSegments x = new GraveSegments(2);
        x.crash(0);
        Rows.set(x, 0, 0, Rows.row(1, -1));
        Rows.set(x, 1, 0, Rows.row(1, -5));
        x.reopen();
        CHECKS.due("badAt with a first one of -1", x.badAt(), -1);
        for (int at = 180; at < 200; at++) {
            dueBadNearTheEnd(at);
        }
    }

    /** A BAD row has its NUMBER up to the place 193, and none from 194 on. */
    private static void dueBadNearTheEnd(int at) {
        GraveSegments x = new GraveSegments(1);
        x.crash(0);
        int rows = fill(x, at);
        for (int i = at; i < 200; i++) {
            x.poke(0, i, 100 + i - at);
        }
        CHECKS.due("reopen with another kind at " + at, x.reopen(), rows);
        CHECKS.due("badAt with another kind at " + at, x.badAt(), at <= 193 ? 0x6768696A : 0);
        CHECKS.due("used with another kind at " + at, x.used(0), at);
    }

    /** Fills the first bytes of a closed object's SEGMENT 0 with GOOD rows: how many. */
    private static int fill(GraveSegments x, int end) {
        int rows = 0;
        int at = 0;
        while (at < end) {
            int left = end - at;
            int size = left <= 36 ? left : Math.min(36, left - 16);
            Rows.set(x, 0, at, Rows.row(rows, rows + 1, new int[size - 16]));
            at += size;
            rows++;
        }
        return rows;
    }

    private static GraveSegments closedWith(int[] row) {
        GraveSegments x = new GraveSegments(1);
        x.crash(0);
        Rows.set(x, 0, 0, row);
        return x;
    }

    private static void dueBad(String what, int[] row, int number) {
        GraveSegments x = closedWith(row);
        CHECKS.due("reopen with " + what, x.reopen(), 0);
        CHECKS.due("badAt with " + what, x.badAt(), number);
        CHECKS.due("NUMBER with " + what, x.count(2), 0);
    }
}
