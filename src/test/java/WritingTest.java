/** Promises 1 to 4: a new object, feed, put, drop. */
final class WritingTest {
    private static final Checks CHECKS = new Checks("WritingTest");

    public static void main(String[] args) {
        promise1HasTheNearestNumberOfSegments();
        promise1IsOpenAndEmpty();
        promise2FeedsTheLowestBytes();
        promise2Refuses();
        promise2GoesWhenClosed();
        promise3WritesARow();
        promise3GoesToTheLeastFreeSegment();
        promise3Refuses();
        promise3HasALastNumber();
        promise4WritesAGrave();
        promise4Refuses();
        CHECKS.end();
    }

    private static void promise1HasTheNearestNumberOfSegments() {
        int[][] toldAndMade = {
            {1, 1}, {2, 2}, {7, 7}, {11, 11}, {12, 12}, {0, 1}, {-1, 1}, {13, 12},
            {Integer.MIN_VALUE, 1}, {Integer.MAX_VALUE, 12}};
        for (int[] pair : toldAndMade) {
            GraveSegments x = new GraveSegments(pair[0]);
            CHECKS.due("used of the last of " + pair[0], x.used(pair[1] - 1), 0);
            CHECKS.due("used behind the last of " + pair[0], x.used(pair[1]), -1);
            CHECKS.dueThrow("byteAt behind the last of " + pair[0], () -> x.byteAt(pair[1], 0));
            CHECKS.due("the last byte of " + pair[0], x.byteAt(pair[1] - 1, 199), 0);
        }
    }

    private static void promise1IsOpenAndEmpty() {
        GraveSegments x = new GraveSegments(12);
        int[] counts = {0, 0, 0, 0, 0, 0, 0, -1};
        for (int what = 0; what < counts.length; what++) {
            CHECKS.due("count(" + what + ") of a new one", x.count(what), counts[what]);
        }
        for (int segment = 0; segment < 12; segment++) {
            for (int i = 0; i < 200; i++) {
                CHECKS.due("byteAt of a new one", x.byteAt(segment, i), 0);
            }
        }
        CHECKS.due("reopen of a new one", x.reopen(), -3);
        CHECKS.due("put of nothing", x.put(0), 1);
        CHECKS.due("length of nothing", x.length(-1, 0), 0);
    }

    private static void promise2FeedsTheLowestBytes() {
        GraveSegments x = new GraveSegments(1);
        CHECKS.due("feed 0", x.feed(-1, 0), 0);
        CHECKS.due("feed 1", x.feed(0x11223344, 1), 1);
        CHECKS.due("feed 2", x.feed(0x11223344, 2), 3);
        CHECKS.due("feed 3", x.feed(0x11223344, 3), 6);
        CHECKS.due("feed 4", x.feed(0x81223344, 4), 10);
        CHECKS.due("put", x.put(9), 1);
        int[] want = {0x44, 0x33, 0x44, 0x22, 0x33, 0x44, 0x81, 0x22, 0x33, 0x44};
        for (int i = 0; i < want.length; i++) {
            CHECKS.due("find of fed byte " + i, x.find(-1, 9, i), want[i]);
        }
    }

    private static void promise2Refuses() {
        GraveSegments x = new GraveSegments(1);
        for (int i = 1; i <= 18; i++) {
            CHECKS.due("feed", x.feed(i, 1), i);
        }
        int[] outside = {-1, 5, Integer.MIN_VALUE, Integer.MAX_VALUE};
        for (int n : outside) {
            CHECKS.due("feed of " + n, x.feed(1, n), -2);
        }
        CHECKS.due("feed to 22", x.feed(7, 4), -4);
        CHECKS.due("feed to 21", x.feed(7, 3), -4);
        CHECKS.due("at hand behind refusals", x.count(6), 18);
        CHECKS.due("feed to 20", x.feed(0x0708, 2), 20);
        CHECKS.due("feed of 0 to 20", x.feed(7, 0), 20);
        CHECKS.due("feed to 21", x.feed(7, 1), -4);
        CHECKS.due("feed outside, and full", x.feed(7, 5), -2);
        x.put(3);
        CHECKS.due("byte 17", x.find(-1, 3, 17), 18);
        CHECKS.due("byte 19", x.find(-1, 3, 19), 8);
    }

    private static void promise2GoesWhenClosed() {
        GraveSegments x = new GraveSegments(1);
        x.feed(1, 1);
        x.crash(0);
        CHECKS.due("at hand behind a crash", x.count(6), 1);
        CHECKS.due("feed when closed", x.feed(0x0203, 2), 3);
        CHECKS.due("feed outside when closed", x.feed(1, 5), -2);
        x.reopen();
        CHECKS.due("put behind reopen", x.put(4), 1);
        CHECKS.due("length behind reopen", x.length(-1, 4), 3);
        CHECKS.due("find behind reopen", x.find(-1, 4, 2), 3);
    }

    private static void promise3WritesARow() {
        GraveSegments x = new GraveSegments(2);
        CHECKS.due("put", Rows.put(x, 999, 1, 0, 255), 1);
        CHECKS.due("put", Rows.put(x, 0), 2);
        CHECKS.due("put", Rows.put(x, 256, 128, 127), 3);
        CHECKS.due("at hand behind put", x.count(6), 0);
        dueBytes(x, 0, 0, Rows.row(999, 1, 1, 0, 255));
        dueBytes(x, 0, 19, Rows.row(0, 2));
        dueBytes(x, 0, 35, Rows.row(256, 3, 128, 127));
        dueBytes(x, 0, 53, new int[147]);
        CHECKS.due("used", x.used(0), 53);
        CHECKS.due("NUMBER", x.count(2), 3);
        CHECKS.due("HELD BACK", x.count(3), 53);
    }

    private static void promise3GoesToTheLeastFreeSegment() {
        GraveSegments x = new GraveSegments(3);
        x.crash(0);
        Rows.set(x, 0, 0, Rows.row(1, 70));
        x.reopen();
        for (int i = 0; i < 5; i++) {
            CHECKS.due("put", Rows.putLong(x, i), 71 + i);
        }
        CHECKS.due("WRITTEN", x.count(7), 1);
        CHECKS.due("put of 21 bytes", Rows.put(x, 7, 1, 2, 3, 4, 5), 76);
        CHECKS.due("WRITTEN behind the full one", x.count(7), 2);
        CHECKS.due("used of the full one", x.used(1), 180);
        CHECKS.due("used of the next", x.used(2), 21);
        CHECKS.due("used of the one opened", x.used(0), 16);
    }

    private static void promise3Refuses() {
        GraveSegments x = new GraveSegments(1);
        for (int i = 0; i < 5; i++) {
            Rows.putLong(x, i);
        }
        int[] outside = {-1, 1000, Integer.MIN_VALUE, Integer.MAX_VALUE};
        for (int key : outside) {
            CHECKS.due("put of " + key, x.put(key), -2);
        }
        CHECKS.due("put of 21 bytes into 20", Rows.put(x, 9, 1, 2, 3, 4, 5), -4);
        CHECKS.due("put outside, and full", x.put(1000), -2);
        CHECKS.due("at hand behind refusals", x.count(6), 5);
        CHECKS.due("NUMBER behind refusals", x.count(2), 5);
        CHECKS.due("HELD BACK behind refusals", x.count(3), 180);
        CHECKS.due("WRITTEN behind refusals", x.count(7), 0);
        x.sync();
        x.crash(0);
        CHECKS.due("put when closed", x.put(1), -3);
        CHECKS.due("put outside when closed", x.put(1000), -3);
        CHECKS.due("at hand when closed", x.count(6), 5);
        GraveSegments y = new GraveSegments(1);
        for (int i = 0; i < 5; i++) {
            Rows.putLong(y, i);
        }
        y.feed(1, 4);
        CHECKS.due("put of 20 bytes into 20", y.put(9), 6);
        CHECKS.due("used of the full one", y.used(0), 200);
        CHECKS.due("put into the full one", y.put(9), -4);
    }

    private static void promise3HasALastNumber() {
        GraveSegments x = new GraveSegments(2);
        x.crash(0);
        Rows.set(x, 0, 0, Rows.row(5, Integer.MAX_VALUE - 1, 1));
        CHECKS.due("reopen", x.reopen(), 1);
        x.feed(8, 1);
        CHECKS.due("put of the last NUMBER", x.put(6), Integer.MAX_VALUE);
        x.feed(9, 1);
        CHECKS.due("put behind the last NUMBER", x.put(6), -4);
        CHECKS.due("put outside behind the last NUMBER", x.put(-1), -2);
        CHECKS.due("drop behind the last NUMBER", x.drop(5), -4);
        CHECKS.due("drop of nothing behind the last NUMBER", x.drop(7), -1);
        CHECKS.due("NUMBER", x.count(2), Integer.MAX_VALUE);
        CHECKS.due("at hand", x.count(6), 1);
        CHECKS.due("used", x.used(1), 17);
        CHECKS.due("find", x.find(-1, 6, 0), 8);
    }

    private static void promise4WritesAGrave() {
        GraveSegments x = new GraveSegments(1);
        Rows.put(x, 700, 5);
        x.feed(6, 1);
        CHECKS.due("drop", x.drop(700), 2);
        CHECKS.due("at hand behind drop", x.count(6), 1);
        dueBytes(x, 0, 17, Rows.grave(700, 2));
        CHECKS.due("used", x.used(0), 33);
        CHECKS.due("length of what is dropped", x.length(-1, 700), -1);
        CHECKS.due("drop again", x.drop(700), -1);
        CHECKS.due("put again", x.put(700), 3);
        CHECKS.due("find again", x.find(-1, 700, 0), 6);
        CHECKS.due("drop of what is there again", x.drop(700), 4);
    }

    private static void promise4Refuses() {
        GraveSegments x = new GraveSegments(1);
        for (int i = 0; i < 5; i++) {
            Rows.putLong(x, i);
        }
        int[] unknown = {-1, 1000, 5, 999, Integer.MIN_VALUE, Integer.MAX_VALUE};
        for (int key : unknown) {
            CHECKS.due("drop of " + key, x.drop(key), -1);
        }
        CHECKS.due("drop", x.drop(0), 6);
        CHECKS.due("drop without room", x.drop(1), -4);
        CHECKS.due("drop of nothing without room", x.drop(0), -1);
        CHECKS.due("NUMBER behind refusals", x.count(2), 6);
        CHECKS.due("what is not dropped", x.length(-1, 1), 20);
        x.crash(500);
        CHECKS.due("drop when closed", x.drop(1), -3);
        CHECKS.due("drop of none when closed", x.drop(-1), -3);
    }

    private static void dueBytes(GraveSegments x, int segment, int at, int[] want) {
        for (int i = 0; i < want.length; i++) {
            CHECKS.due("byteAt(" + segment + ", " + (at + i) + ")", x.byteAt(segment, at + i), want[i]);
        }
    }
}
