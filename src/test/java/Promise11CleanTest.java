/** Promise 11: clean; what CLEANING does without a cut is tested by TermsCleaningTest. */
final class Promise11CleanTest {
    public static void main(String[] args) {
        Checks checks = Checks.ofPromise(11);
        checks.sentence("CLEANING by a part (0 .. whole)", Promise11CleanTest::takesPartsFrom0ToTheWhole);
        checks.sentence("of a whole (1 .. 100):", Promise11CleanTest::takesWholesFrom1To100);
        checks.sentence("how many SEGMENTS became 0.", Promise11CleanTest::answersHowManyBecame0);
        checks.sentence("With kept (NONE: none)", Promise11CleanTest::isNotCutWithNone);
        checks.sentence("it is cut behind so many bytes that were copied,", Promise11CleanTest::isCutAtEveryByte);
        checks.sentence("so many bytes that were copied,", Promise11CleanTest::countsCopiesOverSegments);
        checks.sentence("so many bytes that were copied,", Promise11CleanTest::isCutInTheNextSegmentWritten);
        checks.sentence("if it would copy more:", Promise11CleanTest::isNotCutBehindTheLastCopy);
        checks.sentence("if it would copy more:", Promise11CleanTest::isNotCutWithoutRoom);
        checks.sentence("CLOSED then, without more.", Promise11CleanTest::isClosedByTheCut);
        checks.sentence("without more.", Promise11CleanTest::leavesWhatIsBehindTheCut);
        checks.sentence("-3;", Promise11CleanTest::refusesWhenClosed);
        checks.sentence("-2", Promise11CleanTest::refusesOtherPartsAndWholes);
        checks.sentence("(also kept below NONE).", Promise11CleanTest::refusesKeptBelowNone);
        checks.end();
    }

    /** SEGMENT 0: rows of the KEYS 0 to 4, of which 1 and 3 are written again into SEGMENT 1. */
    private static Store twoFifthsDead(Checks checks, int segments) {
        Store x = checks.store(segments);
        x.writeLongs(0, 5);
        x.writeLong(1);
        x.writeLong(3);
        return x;
    }

    private static void takesPartsFrom0ToTheWhole(Checks checks) {
        int[] wholes = {1, 2, 99, 100};
        for (int whole : wholes) {
            twoFifthsDead(checks, 3).clean(-1, whole, -1).due(-2);
            twoFifthsDead(checks, 3).clean(0, whole, -1).due(1);
            twoFifthsDead(checks, 3).clean(whole, whole, -1).due(0);
            twoFifthsDead(checks, 3).clean(whole + 1, whole, -1).due(-2);
        }
    }

    private static void takesWholesFrom1To100(Checks checks) {
        int[] wholes = {1, 2, 99, 100};
        for (int whole : wholes) {
            checks.store(1).clean(0, whole, -1).due(0);
            checks.store(1).clean(1, whole, -1).due(0);
        }
        int[] others = {-1, 0, 101};
        for (int whole : others) {
            checks.store(1).clean(0, whole, -1).due(-2);
        }
    }

    private static void answersHowManyBecame0(Checks checks) {
        checks.store(12).clean(0, 1, -1).due(0);
        for (int n = 1; n <= 12; n++) {
            Store x = checks.closedStore(12);
            for (int segment = 0; segment < n; segment++) {
                x.poke(segment, 0, 99);
            }
            x.reopen().due(0);
            x.count(1).due(n);
            x.clean(1, 1, -1).due(n);
            x.count(1).due(0);
            x.clean(1, 1, -1).due(0);
        }
    }

    private static void isNotCutWithNone(Checks checks) {
        Store x = twoFifthsDead(checks, 3);
        x.clean(0, 1, GraveSegments.NONE).due(1);
        x.count(4).due(0);
        x.dueUsed(0, 180, 0);
    }

    /** The rows of the KEYS 0, 2, 4 are copied behind 72 bytes of SEGMENT 1. */
    private static void isCutAtEveryByte(Checks checks) {
        int[] copies = new int[108];
        for (int i = 0; i < 3; i++) {
            System.arraycopy(Rows.row(2 * i, 2 * i + 1, Rows.twenty(2 * i)), 0, copies, 36 * i, 36);
        }
        for (int kept = 0; kept < 108; kept++) {
            Store x = twoFifthsDead(checks, 3);
            x.clean(0, 1, kept).due(0);
            x.count(4).due(1);
            x.dueUsed(180, 72 + kept, 0);
            for (int i = 0; i < 128; i++) {
                x.byteAt(1, 72 + i).due(i < kept ? copies[i] : 0);
            }
            x.dueBytes(0, 0, Rows.row(0, 1, Rows.twenty(0)));
            x.reopen().due(5);
            x.count(2).due(7);
            x.dueLiving(108, 72, 0);
            // A whole copy in 1 LIVES once 0 is gone, so that 1 has more to copy than 2 has room for.
            x.clean(0, 1, -1).due(kept < 36 ? 2 : 3);
            x.count(0).due(5);
        }
    }

    /** 16 bytes LIVE in 0, none in 1, 17 in 2: a cut behind 16 bytes or more comes in 2. */
    private static void countsCopiesOverSegments(Checks checks) {
        for (int kept = 0; kept <= 34; kept++) {
            Store x = checks.closedStore(4);
            x.forge(0, 0, Rows.row(1, 3));
            x.forge(1, 0, Rows.row(1, 2));
            x.forge(2, 0, Rows.row(2, 1, 1));
            x.reopen().due(2);
            x.clean(0, 1, kept).due(kept < 16 ? 0 : kept < 33 ? 2 : 3);
            x.count(4).due(kept < 33 ? 1 : 0);
            x.dueUsed(kept < 16 ? 16 : 0, kept < 16 ? 16 : 0, kept < 33 ? 17 : 0, Math.min(kept, 33));
            x.reopen().due(kept < 33 ? 2 : -3);
        }
    }

    /** The first copy goes to SEGMENT 1, where 20 bytes are left, the second to SEGMENT 2. */
    private static void isCutInTheNextSegmentWritten(Checks checks) {
        for (int kept = 16; kept <= 19; kept++) {
            Store x = checks.store(3);
            x.put(30);
            x.writeLong(31);
            x.writeLongs(0, 4);
            x.writeLongs(0, 4);
            x.dueUsed(196, 180 - 36, 0);
            x.writeLong(40);
            x.clean(1, 2, kept).due(0);
            x.count(4).due(1);
            x.dueUsed(196, 196, kept - 16);
            x.dueBytes(1, 180, Rows.row(30, 1));
            x.byteAt(2, 0).due(kept > 16 ? 1 : 0);
            x.dueZeros(2, 3, 200);
            x.count(1).due(kept > 16 ? 3 : 2);
            x.reopen().due(7);
            x.badAt().due(kept > 16 ? 0 : -1);
            x.dueUsed(196, 196, kept > 16 ? 16 : 0);
        }
    }

    private static void isNotCutBehindTheLastCopy(Checks checks) {
        int[] enough = {108, 109, Integer.MAX_VALUE};
        for (int kept : enough) {
            Store x = twoFifthsDead(checks, 3);
            x.clean(0, 1, kept).due(1);
            x.count(4).due(0);
            x.dueUsed(0, 180, 0);
        }
        twoFifthsDead(checks, 3).clean(0, 1, 107).due(0);
        Store none = checks.store(3);
        none.clean(0, 1, 0).due(0);
        none.count(4).due(0);
        Store dead = checks.store(2);
        dead.writeLongs(0, 5);
        dead.writeLongs(0, 5);
        dead.clean(0, 1, 0).due(1);
        dead.count(4).due(0);
        dead.dueUsed(0, 180);
    }

    /** It ends for want of room before it would copy, so there is nothing to be cut. */
    private static void isNotCutWithoutRoom(Checks checks) {
        Store x = checks.store(2);
        x.writeLongs(0, 10);
        x.clean(0, 1, 0).due(0);
        x.count(4).due(0);
        x.dueUsed(180, 180);
    }

    private static void isClosedByTheCut(Checks checks) {
        Store x = twoFifthsDead(checks, 3);
        x.snapshot();
        x.feed(1, 3);
        x.clean(0, 1, 50).due(0);
        x.dueCounts(0, 2, 7, 0, 1, 0, 3, -1);
        x.living(0).due(-1);
        x.length(-1, 1).due(-1);
        x.put(1).due(-3);
        x.clean(0, 1, -1).due(-3);
        x.poke(2, 0, 0).due(0);
        x.reopen().due(5);
        x.dueCounts(5, 2, 7, 0, 0, 0, 3, -1);
        x.badAt().due(3);
        x.crash(0).due(0);
        x.reopen().due(5);
    }

    /** SEGMENT 0 is cut, so 1 and what would come behind stay as they were; all was synced before. */
    private static void leavesWhatIsBehindTheCut(Checks checks) {
        Store x = checks.closedStore(4);
        x.forge(0, 0, Rows.row(1, 3, 1));
        x.forge(1, 0, 99);
        x.reopen().due(1);
        x.put(7).due(4);
        x.count(3).due(16);
        x.clean(0, 1, 0).due(0);
        x.byteAt(1, 0).due(99);
        x.dueUsed(17, 0, 16, 0);
        x.dueBytes(0, 0, Rows.row(1, 3, 1));
        x.dueBytes(2, 0, Rows.row(7, 4));
        x.dueZeros(2, 16, 200);
        x.reopen().due(2);
    }

    private static void refusesWhenClosed(Checks checks) {
        Store x = twoFifthsDead(checks, 3);
        x.crash(1000).due(0);
        x.clean(0, 1, -1).due(-3);
        x.clean(0, 1, 0).due(-3);
        x.clean(2, 1, -2).due(-3);
        x.clean(0, 0, 0).due(-3);
        x.dueUsed(180, 72, 0);
    }

    private static void refusesOtherPartsAndWholes(Checks checks) {
        Store x = twoFifthsDead(checks, 3);
        int[][] outside = {
            {0, 0}, {1, 0}, {0, -1}, {-1, -1}, {-1, 0}, {0, 101}, {101, 101}, {-1, 5}, {6, 5}, {101, 100},
            {2, 1}, {-1, 100}, {Integer.MIN_VALUE, 1}, {Integer.MAX_VALUE, 100}, {0, Integer.MAX_VALUE},
            {0, Integer.MIN_VALUE}, {Integer.MAX_VALUE, Integer.MAX_VALUE}};
        for (int[] told : outside) {
            x.clean(told[0], told[1], -1).due(-2);
            x.clean(told[0], told[1], 0).due(-2);
        }
        x.count(3).due(252);
        x.dueUsed(180, 72, 0);
        x.count(4).due(0);
    }

    private static void refusesKeptBelowNone(Checks checks) {
        Store x = twoFifthsDead(checks, 3);
        x.clean(0, 1, -2).due(-2);
        x.clean(0, 1, -3).due(-2);
        x.clean(0, 1, Integer.MIN_VALUE).due(-2);
        x.count(3).due(252);
        x.dueUsed(180, 72, 0);
        x.clean(0, 1, -1).due(1);
    }
}
