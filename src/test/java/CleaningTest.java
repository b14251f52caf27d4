/** Promise 11: clean. */
final class CleaningTest {
    private static final Checks CHECKS = new Checks("CleaningTest");

    public static void main(String[] args) {
        copiesWhatLives();
        looksAtTheShare();
        leavesTheWrittenSegment();
        leavesWhatIsFree();
        cleansWhatHasNoRow();
        goesSegmentBySegment();
        endsWithoutRoom();
        needsNoRoomForNothing();
        looksForRoomBeforeItCopies();
        fillsTheRoomToTheLastByte();
        takesTheRestOfTheWrittenOneFirst();
        keepsGravesWhileTheyAreNeeded();
        keepsOneOfEqualRows();
        syncs();
        isCutAtEveryByte();
        isNotCutBehindTheLastCopy();
        countsWhatWasCopiedOverSegments();
        refuses();
        CHECKS.end();
    }

    /** SEGMENT 0: rows of the KEYS 0 to 4, of which 1 and 3 are written again into SEGMENT 1. */
    private static GraveSegments halfDead(int segments) {
        GraveSegments x = new GraveSegments(segments);
        for (int key = 0; key < 5; key++) {
            Rows.putLong(x, key);
        }
        Rows.putLong(x, 1);
        Rows.putLong(x, 3);
        return x;
    }

    private static void copiesWhatLives() {
        GraveSegments x = halfDead(3);
        CHECKS.due("living", x.living(0), 108);
        CHECKS.due("clean", x.clean(2, 5, -1), 1);
        CHECKS.due("used of the cleaned", x.used(0), 0);
        CHECKS.due("living of the cleaned", x.living(0), 0);
        for (int i = 0; i < 200; i++) {
            CHECKS.due("byte " + i + " of the cleaned", x.byteAt(0, i), 0);
        }
        CHECKS.due("used", x.used(1), 180);
        CHECKS.due("living", x.living(1), 180);
        int[] keys = {1, 3, 0, 2, 4};
        int[] numbers = {6, 7, 1, 3, 5};
        for (int row = 0; row < 5; row++) {
            CHECKS.due("KEY of row " + row, x.byteAt(1, row * 36 + 2), keys[row]);
            CHECKS.due("NUMBER of row " + row, x.byteAt(1, row * 36 + 6), numbers[row]);
        }
        int[] counts = {5, 1, 7, 0, 0, 0, 0, 1};
        for (int what = 0; what < counts.length; what++) {
            CHECKS.due("count(" + what + ")", x.count(what), counts[what]);
        }
        x.crash(0);
        CHECKS.due("reopen", x.reopen(), 5);
        CHECKS.due("badAt", x.badAt(), -1);
        CHECKS.due("find", x.find(-1, 4, 3), 4);
    }

    /** 72 of 180 bytes do not live: two fifths. */
    private static void looksAtTheShare() {
        int[][] partWholeCleaned = {
            {0, 1, 1}, {1, 1, 0}, {2, 5, 1}, {40, 100, 1}, {41, 100, 0}, {39, 100, 1}, {3, 7, 0},
            {3, 8, 1}, {1, 2, 0}, {1, 3, 1}, {0, 100, 1}, {100, 100, 0}};
        for (int[] told : partWholeCleaned) {
            GraveSegments x = halfDead(3);
            CHECKS.due("clean(" + told[0] + ", " + told[1] + ", -1)", x.clean(told[0], told[1], -1), told[2]);
        }
        GraveSegments x = new GraveSegments(2);
        x.crash(0);
        Rows.set(x, 0, 0, Rows.row(1, 1));
        Rows.set(x, 0, 16, Rows.row(2, 0));
        x.reopen();
        CHECKS.due("clean of more than half", x.clean(51, 100, -1), 0);
        CHECKS.due("clean of half, a BAD row", x.clean(1, 2, -1), 1);
        CHECKS.due("used", x.used(1), 16);
    }

    private static void leavesTheWrittenSegment() {
        GraveSegments x = new GraveSegments(2);
        Rows.put(x, 1, 1);
        Rows.put(x, 1, 2);
        x.drop(1);
        CHECKS.due("clean", x.clean(0, 1, -1), 0);
        CHECKS.due("used", x.used(0), 50);
        x.crash(0);
        x.reopen();
        CHECKS.due("clean of what is not WRITTEN any more", x.clean(0, 1, -1), 1);
        CHECKS.due("used of the next", x.used(1), 16);
        CHECKS.due("WRITTEN", x.count(7), 1);
        CHECKS.due("living of a GRAVE alone", x.living(1), 0);
        CHECKS.due("the next NUMBER", x.put(1), 4);
    }

    private static void leavesWhatIsFree() {
        GraveSegments x = new GraveSegments(12);
        CHECKS.due("clean of nothing", x.clean(0, 1, -1), 0);
        x.crash(0);
        x.poke(3, 1, 9);
        x.reopen();
        CHECKS.due("clean with bytes in a FREE one", x.clean(0, 1, -1), 0);
        CHECKS.due("byte of a FREE one", x.byteAt(3, 1), 9);
    }

    private static void cleansWhatHasNoRow() {
        GraveSegments x = new GraveSegments(2);
        x.crash(0);
        Rows.set(x, 0, 0, 77, 78, 79);
        Rows.set(x, 0, 199, 80);
        CHECKS.due("reopen", x.reopen(), 0);
        CHECKS.due("used", x.used(0), 0);
        CHECKS.due("IN USE", x.count(1), 1);
        CHECKS.due("clean", x.clean(1, 1, 0), 1);
        CHECKS.due("IN USE behind it", x.count(1), 0);
        CHECKS.due("first byte", x.byteAt(0, 0), 0);
        CHECKS.due("last byte", x.byteAt(0, 199), 0);
    }

    /** What is copied from 0 and 1 fills 3, so that 3 is not WRITTEN when its turn comes. */
    private static void goesSegmentBySegment() {
        GraveSegments x = new GraveSegments(4);
        x.crash(0);
        for (int segment = 0; segment < 3; segment++) {
            for (int i = 0; i < 3; i++) {
                int number = segment * 3 + i + 1;
                Rows.set(x, segment, i * 36, Rows.row(number, number, new int[20]));
            }
        }
        CHECKS.due("reopen", x.reopen(), 9);
        CHECKS.due("clean", x.clean(0, 1, -1), 4);
        CHECKS.due("used 0", x.used(0), 180);
        CHECKS.due("used 1", x.used(1), 144);
        CHECKS.due("used 2", x.used(2), 0);
        CHECKS.due("used 3", x.used(3), 0);
        CHECKS.due("WRITTEN", x.count(7), 1);
        int[] numbers = {6, 7, 8, 9, 1};
        for (int i = 0; i < 5; i++) {
            CHECKS.due("NUMBER of row " + i, x.byteAt(0, i * 36 + 6), numbers[i]);
        }
        for (int key = 1; key <= 9; key++) {
            CHECKS.due("length of " + key, x.length(-1, key), 20);
        }
    }

    private static void endsWithoutRoom() {
        GraveSegments x = new GraveSegments(2);
        for (int key = 0; key < 5; key++) {
            Rows.putLong(x, key);
        }
        for (int key = 0; key < 5; key++) {
            Rows.putLong(x, key + 5);
        }
        x.feed(1, 4);
        CHECKS.due("clean", x.clean(0, 1, -1), 0);
        CHECKS.due("clean with a cut", x.clean(0, 1, 0), 0);
        CHECKS.due("open still", x.count(4), 0);
        CHECKS.due("HELD BACK", x.count(3), 0);
        CHECKS.due("used 0", x.used(0), 180);
        CHECKS.due("used 1", x.used(1), 180);
        CHECKS.due("put into what is left", x.put(9), 11);
        GraveSegments y = new GraveSegments(3);
        y.crash(0);
        Rows.set(y, 0, 0, Rows.row(1, 1));
        for (int i = 0; i < 5; i++) {
            Rows.set(y, 1, i * 36, Rows.row(2 + i, 2 + i, new int[20]));
        }
        Rows.set(y, 2, 0, Rows.bytes(2, 3, 9, 9));
        CHECKS.due("reopen", y.reopen(), 6);
        CHECKS.due("clean that ends at the first", y.clean(0, 1, -1), 0);
        CHECKS.due("used of the one behind", y.used(2), 17);
        CHECKS.due("clean of dead ones alone", y.clean(1, 1, -1), 1);
        CHECKS.due("clean with one FREE", y.clean(0, 1, -1), 2);
        CHECKS.due("used 0", y.used(0), 0);
        CHECKS.due("used 1", y.used(1), 0);
        CHECKS.due("used 2", y.used(2), 196);
    }

    private static void needsNoRoomForNothing() {
        GraveSegments x = new GraveSegments(2);
        for (int i = 0; i < 10; i++) {
            Rows.putLong(x, i % 5);
        }
        x.feed(1, 4);
        x.put(5);
        CHECKS.due("used of the full one", x.used(1), 200);
        CHECKS.due("clean", x.clean(1, 1, 0), 1);
        CHECKS.due("used", x.used(0), 0);
        CHECKS.due("open still", x.count(4), 0);
    }

    /** The first two survivors would have room and the third has none: none is copied. */
    private static void looksForRoomBeforeItCopies() {
        GraveSegments x = halfDead(2);
        Rows.putLong(x, 5);
        CHECKS.due("clean without room", x.clean(0, 1, 36), 0);
        CHECKS.due("open still", x.count(4), 0);
        CHECKS.due("used", x.used(1), 108);
        GraveSegments y = halfDead(3);
        Rows.putLong(y, 5);
        CHECKS.due("clean with room", y.clean(2, 5, -1), 1);
        CHECKS.due("used", y.used(1), 180);
        CHECKS.due("used of the FREE one", y.used(2), 36);
        CHECKS.due("WRITTEN", y.count(7), 2);
    }

    private static void fillsTheRoomToTheLastByte() {
        for (int more = 4; more <= 5; more++) {
            GraveSegments x = new GraveSegments(2);
            for (int i = 0; i < 9; i++) {
                Rows.putLong(x, i % 5);
            }
            for (int i = 0; i < more; i++) {
                x.feed(1, 1);
            }
            x.put(20);
            CHECKS.due("clean with " + more + " more bytes", x.clean(1, 2, -1), more == 4 ? 1 : 0);
            CHECKS.due("used with " + more + " more bytes", x.used(1), more == 4 ? 200 : 165);
        }
    }

    /** A row that does not fit makes a FREE one WRITTEN: what follows goes there, too. */
    private static void takesTheRestOfTheWrittenOneFirst() {
        GraveSegments x = new GraveSegments(3);
        Rows.put(x, 1, 1);
        Rows.putLong(x, 2);
        Rows.put(x, 3, 3);
        for (int i = 0; i < 3; i++) {
            Rows.putLong(x, 10 + i);
        }
        for (int i = 0; i < 4; i++) {
            Rows.putLong(x, 10 + i);
        }
        CHECKS.due("used 0", x.used(0), 178);
        CHECKS.due("used 1", x.used(1), 144);
        x.feed(4, 4);
        x.put(20);
        CHECKS.due("clean", x.clean(1, 2, -1), 1);
        CHECKS.due("used 1", x.used(1), 181);
        CHECKS.due("used 2", x.used(2), 53);
        CHECKS.due("KEY of the first that moved on", x.byteAt(2, 2), 2);
        CHECKS.due("KEY of the second", x.byteAt(2, 38), 3);
    }

    private static void keepsGravesWhileTheyAreNeeded() {
        GraveSegments x = new GraveSegments(4);
        x.crash(0);
        Rows.set(x, 0, 0, Rows.grave(1, 2));
        Rows.set(x, 0, 16, Rows.grave(2, 3));
        Rows.set(x, 0, 32, Rows.grave(3, 9));
        Rows.set(x, 1, 0, Rows.row(1, 1, 5));
        Rows.set(x, 1, 17, Rows.grave(3, 8));
        CHECKS.due("reopen", x.reopen(), 0);
        CHECKS.due("living 0", x.living(0), 32);
        CHECKS.due("living 1", x.living(1), 0);
        CHECKS.due("clean of a half", x.clean(1, 2, -1), 1);
        CHECKS.due("used 1", x.used(1), 0);
        CHECKS.due("living behind it", x.living(0), 0);
        CHECKS.due("clean of all", x.clean(1, 1, -1), 1);
        CHECKS.due("IN USE", x.count(1), 0);
        CHECKS.due("WRITTEN", x.count(7), -1);
        CHECKS.due("the next NUMBER", x.put(1), 10);
    }

    private static void keepsOneOfEqualRows() {
        GraveSegments x = new GraveSegments(4);
        x.crash(0);
        Rows.set(x, 1, 0, Rows.row(1, 1, 5));
        Rows.set(x, 1, 17, Rows.row(1, 1, 5));
        Rows.set(x, 2, 0, Rows.row(1, 1, 5));
        CHECKS.due("reopen", x.reopen(), 1);
        CHECKS.due("living 1", x.living(1), 17);
        CHECKS.due("living 2", x.living(2), 0);
        CHECKS.due("clean", x.clean(0, 1, -1), 2);
        CHECKS.due("used 0", x.used(0), 17);
        CHECKS.due("living 0", x.living(0), 17);
        CHECKS.due("IN USE", x.count(1), 1);
    }

    private static void syncs() {
        GraveSegments x = new GraveSegments(1);
        Rows.put(x, 1, 1);
        CHECKS.due("refused", x.clean(2, 1, -1), -2);
        CHECKS.due("HELD BACK", x.count(3), 17);
        CHECKS.due("clean of nothing", x.clean(1, 1, -1), 0);
        CHECKS.due("HELD BACK behind it", x.count(3), 0);
        CHECKS.due("crash", x.crash(0), 0);
        CHECKS.due("reopen", x.reopen(), 1);
        GraveSegments y = halfDead(3);
        CHECKS.due("a cut", y.clean(0, 1, 0), 0);
        CHECKS.due("closed", y.count(4), 1);
        CHECKS.due("HELD BACK", y.count(3), 0);
        CHECKS.due("reopen behind a cut", y.reopen(), 5);
        CHECKS.due("badAt", y.badAt(), -1);
    }

    private static void isCutAtEveryByte() {
        for (int kept = 0; kept < 108; kept++) {
            GraveSegments x = halfDead(3);
            String cut = " cut at " + kept;
            CHECKS.due("clean" + cut, x.clean(0, 1, kept), 0);
            CHECKS.due("closed" + cut, x.count(4), 1);
            CHECKS.due("WRITTEN" + cut, x.count(7), -1);
            CHECKS.due("KEYS" + cut, x.count(0), 0);
            CHECKS.due("used 0" + cut, x.used(0), 180);
            CHECKS.due("used 1" + cut, x.used(1), 72 + kept);
            int[] from = {0, 72, 144};
            for (int i = 0; i < 128; i++) {
                int want = i < kept ? x.byteAt(0, from[i / 36] + i % 36) : 0;
                CHECKS.due("byte " + i + cut, x.byteAt(1, 72 + i), want);
            }
            CHECKS.due("reopen" + cut, x.reopen(), 5);
            CHECKS.due("NUMBER" + cut, x.count(2), 7);
            CHECKS.due("living 0" + cut, x.living(0), 108);
            CHECKS.due("living 1" + cut, x.living(1), 72);
            // With SEGMENT 0 gone, whole copies in 1 come before those in 2: 1 overflows into 0.
            CHECKS.due("clean again" + cut, x.clean(0, 1, -1), kept < 36 ? 2 : 3);
            CHECKS.due("KEYS behind cleaning" + cut, x.count(0), 5);
            CHECKS.due("used behind cleaning" + cut, x.used(0) + x.used(2), 180);
        }
    }

    private static void isNotCutBehindTheLastCopy() {
        GraveSegments x = halfDead(3);
        CHECKS.due("clean of as many as there are", x.clean(0, 1, 108), 1);
        CHECKS.due("open still", x.count(4), 0);
        GraveSegments y = halfDead(3);
        CHECKS.due("clean of more", y.clean(0, 1, Integer.MAX_VALUE), 1);
        CHECKS.due("open still", y.count(4), 0);
        GraveSegments z = new GraveSegments(3);
        CHECKS.due("clean of none", z.clean(0, 1, 0), 0);
        CHECKS.due("open still", z.count(4), 0);
    }

    /** 16 bytes live in 0, none in 1, 17 in 2: a cut behind 16 or more comes in 2. */
    private static void countsWhatWasCopiedOverSegments() {
        for (int kept = 0; kept <= 33; kept++) {
            GraveSegments x = new GraveSegments(4);
            x.crash(0);
            Rows.set(x, 0, 0, Rows.row(1, 3));
            Rows.set(x, 1, 0, Rows.row(1, 2));
            Rows.set(x, 2, 0, Rows.row(2, 1, 1));
            x.reopen();
            String cut = " cut at " + kept;
            int cleaned = kept < 16 ? 0 : kept < 33 ? 2 : 3;
            CHECKS.due("clean" + cut, x.clean(0, 1, kept), cleaned);
            CHECKS.due("closed" + cut, x.count(4), kept < 33 ? 1 : 0);
            CHECKS.due("used 3" + cut, x.used(3), kept);
            CHECKS.due("used 0" + cut, x.used(0), kept < 16 ? 16 : 0);
            CHECKS.due("used 1" + cut, x.used(1), kept < 16 ? 16 : 0);
            CHECKS.due("used 2" + cut, x.used(2), kept < 33 ? 17 : 0);
            CHECKS.due("reopen" + cut, x.reopen(), kept < 33 ? 2 : -3);
        }
    }

    private static void refuses() {
        GraveSegments x = halfDead(3);
        int[][] outside = {
            {0, 0, -1}, {1, 0, -1}, {0, -1, -1}, {-1, -1, -1}, {0, 101, -1}, {-1, 5, -1}, {6, 5, -1},
            {101, 100, -1}, {0, 1, -2}, {0, 1, Integer.MIN_VALUE}, {Integer.MIN_VALUE, 1, 0},
            {Integer.MAX_VALUE, 100, 0}, {0, Integer.MAX_VALUE, 0}, {0, Integer.MIN_VALUE, 0}};
        for (int[] told : outside) {
            CHECKS.due("clean(" + told[0] + ", " + told[1] + ", " + told[2] + ")",
                    x.clean(told[0], told[1], told[2]), -2);
        }
        CHECKS.due("HELD BACK behind refusals", x.count(3), 252);
        CHECKS.due("used behind refusals", x.used(0), 180);
        x.crash(0);
        CHECKS.due("clean when closed", x.clean(0, 1, -1), -3);
        CHECKS.due("clean outside when closed", x.clean(2, 1, -2), -3);
    }
}
