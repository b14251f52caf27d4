/** Terms: CLEANING, without a cut; how it is cut is told by promise 11. */
final class TermsCleaningTest {
    public static void main(String[] args) {
        Checks checks = Checks.ofTerm("CLEANING syncs");
        checks.sentence("CLEANING syncs;", TermsCleaningTest::syncsFirst);
        checks.sentence("then, SEGMENT by SEGMENT,", TermsCleaningTest::goesSegmentBySegment);
        checks.sentence("each that is IN USE,", TermsCleaningTest::leavesWhatIsFree);
        checks.sentence("each that is IN USE,", TermsCleaningTest::cleansWhatIsInUseWithoutARow);
        checks.sentence("and not WRITTEN when its turn comes,", TermsCleaningTest::leavesTheWrittenOne);
        checks.sentence("when its turn comes,", TermsCleaningTest::leavesWhatBecameWritten);
        checks.sentence("when its turn comes,", TermsCleaningTest::cleansWhatIsNotWrittenAnyMore);
        checks.sentence("and of whose USED bytes the share that does not LIVE is at least the part of the whole told:",
                TermsCleaningTest::looksAtTheShare);
        checks.sentence("of whose USED bytes", TermsCleaningTest::countsUsedBytesOfNoRow);
        checks.sentence("what LIVES there then is copied,", TermsCleaningTest::copiesWhatLives);
        checks.sentence("what LIVES there then", TermsCleaningTest::copiesWhatLivesAtItsTurn);
        checks.sentence("what LIVES there then", TermsCleaningTest::copiesOneOfEqualRows);
        checks.sentence("in its order,", TermsCleaningTest::keepsTheOrderOfPlaces);
        checks.sentence("as if written", TermsCleaningTest::copiesToWhereARowWouldBeWritten);
        checks.sentence("(with its own NUMBERS);", TermsCleaningTest::keepsTheNumbers);
        checks.sentence("it syncs;", TermsCleaningTest::holdsNoCopyBack);
        checks.sentence("the SEGMENT's bytes become 0.", TermsCleaningTest::zeroesAllBytes);
        checks.sentence("If there is no room for a copy", TermsCleaningTest::needsRoomForTheLastByte);
        checks.sentence("If there is no room for a copy", TermsCleaningTest::needsNoRoomForNothing);
        checks.sentence("(looked at for all of that SEGMENT before the first is copied),",
                TermsCleaningTest::looksForRoomBeforeItCopies);
        checks.sentence("CLEANING ends there.", TermsCleaningTest::endsAtTheFirstWithoutRoom);
        checks.end();
    }

    /** SEGMENT 0: rows of the KEYS 0 to 4, of which 1 and 3 are written again into SEGMENT 1. */
    private static Store twoFifthsDead(Checks checks, int segments) {
        Store x = checks.store(segments);
        x.writeLongs(0, 5);
        x.writeLong(1);
        x.writeLong(3);
        return x;
    }

    private static void syncsFirst(Checks checks) {
        Store x = checks.store(1);
        x.write(1, 1);
        x.clean(2, 1, -1).due(-2);
        x.count(3).due(17);
        x.clean(1, 1, -1).due(0);
        x.count(3).due(0);
        x.crash(0).due(0);
        x.reopen().due(1);
        Store y = checks.store(2);
        y.writeLongs(0, 10);
        y.clean(0, 1, -1).due(0);
        y.count(3).due(0);
    }

    /** Rows of 0, 1, 2 come in this order to 3; where they fill it, each goes to the one before it. */
    private static void goesSegmentBySegment(Checks checks) {
        Store x = checks.closedStore(4);
        for (int segment = 0; segment < 3; segment++) {
            for (int i = 0; i < 3; i++) {
                int number = segment * 3 + i + 1;
                x.forge(segment, i * 18, Rows.row(number, number, number, number));
            }
        }
        x.reopen().due(9);
        x.clean(0, 1, -1).due(3);
        x.dueUsed(0, 0, 0, 162);
        for (int i = 0; i < 9; i++) {
            x.byteAt(3, i * 18 + 6).due(i + 1);
        }
        x.count(7).due(3);
        Store y = checks.store(4);
        y.writeLongs(0, 15);
        y.crash(1000).due(0);
        y.reopen().due(15);
        y.clean(0, 1, -1).due(4);
        y.dueUsed(180, 180, 180, 0);
        y.count(7).due(2);
    }

    private static void leavesWhatIsFree(Checks checks) {
        checks.store(12).clean(0, 1, -1).due(0);
        Store x = checks.closedStore(12);
        x.poke(3, 1, 9);
        x.reopen();
        x.clean(0, 1, -1).due(0);
        x.byteAt(3, 1).due(9);
    }

    /** No USED byte at all meets every part, also the whole. */
    private static void cleansWhatIsInUseWithoutARow(Checks checks) {
        for (int part = 0; part <= 1; part++) {
            Store x = checks.closedStore(2);
            x.forge(0, 0, 77, 78, 79);
            x.forge(0, 199, 80);
            x.reopen().due(0);
            x.dueUsed(0, 0);
            x.count(1).due(1);
            x.clean(part, 1, -1).due(1);
            x.count(1).due(0);
            x.dueZeros(0, 0, 200);
        }
    }

    private static void leavesTheWrittenOne(Checks checks) {
        Store x = checks.store(2);
        x.write(1, 1);
        x.write(1, 2);
        x.drop(1);
        x.clean(0, 1, -1).due(0);
        x.dueUsed(50, 0);
        x.crash(0).due(0);
        x.reopen().due(0);
        x.clean(0, 1, -1).due(1);
        x.dueUsed(0, 16);
        x.count(7).due(1);
    }

    /** SEGMENT 2 is FREE at first and WRITTEN by the copies when its turn comes. */
    private static void leavesWhatBecameWritten(Checks checks) {
        Store x = checks.closedStore(3);
        x.forge(0, 0, Rows.row(1, 1));
        x.forge(1, 0, Rows.row(2, 2));
        x.reopen().due(2);
        x.clean(0, 1, -1).due(2);
        x.dueUsed(0, 0, 32);
        x.count(7).due(2);
        x.clean(0, 1, -1).due(0);
    }

    /** SEGMENT 1 is WRITTEN at first, but the copies of 0 go on to 2; so do those of 1, to 0. */
    private static void cleansWhatIsNotWrittenAnyMore(Checks checks) {
        Store x = checks.store(3);
        x.writeLongs(0, 8);
        x.dueUsed(180, 108, 0);
        x.count(7).due(1);
        x.clean(0, 1, -1).due(3);
        x.dueUsed(180, 108, 0);
        x.count(7).due(1);
        int[] keys = {7, 0, 1, 2, 3, 4, 5, 6};
        for (int i = 0; i < 8; i++) {
            x.byteAt(i / 5, i % 5 * 36 + 2).due(keys[i]);
        }
    }

    /** 72 of 180 bytes do not LIVE: two fifths. */
    private static void looksAtTheShare(Checks checks) {
        int[][] partWholeCleaned = {
            {0, 1, 1}, {1, 1, 0}, {2, 5, 1}, {3, 5, 0}, {39, 100, 1}, {40, 100, 1}, {41, 100, 0}, {3, 7, 0},
            {3, 8, 1}, {1, 2, 0}, {1, 3, 1}, {0, 100, 1}, {1, 100, 1}, {99, 100, 0}, {100, 100, 0}};
        for (int[] told : partWholeCleaned) {
            twoFifthsDead(checks, 3).clean(told[0], told[1], -1).due(told[2]);
        }
        Store dead = checks.store(3);
        for (int i = 0; i < 6; i++) {
            dead.writeLong(1);
        }
        dead.clean(100, 100, -1).due(1);
        Store alive = checks.store(3);
        alive.writeLongs(0, 6);
        alive.clean(1, 100, -1).due(0);
        alive.clean(0, 100, -1).due(3);
    }

    private static void countsUsedBytesOfNoRow(Checks checks) {
        Store x = checks.closedStore(2);
        x.forge(0, 0, Rows.row(1, 1));
        x.forge(0, 16, Rows.row(2, 0));
        x.reopen().due(1);
        x.dueUsed(32, 0);
        x.clean(51, 100, -1).due(0);
        x.clean(1, 2, -1).due(1);
        x.dueUsed(0, 16);
        Store y = checks.closedStore(2);
        y.forge(0, 0, Rows.row(1, 1));
        y.forge(0, 16, 3, 3, 3);
        y.reopen().due(1);
        y.dueUsed(16, 0);
        y.clean(1, 100, -1).due(0);
    }

    private static void copiesWhatLives(Checks checks) {
        Store x = twoFifthsDead(checks, 3);
        x.dueLiving(108, 72, 0);
        x.clean(2, 5, -1).due(1);
        x.dueUsed(0, 180, 0);
        x.dueLiving(0, 180, 0);
        x.dueCounts(5, 1, 7, 0, 0, 0, 0, 1);
        x.dueBytes(1, 72, Rows.row(0, 1, Rows.twenty(0)));
        x.dueBytes(1, 108, Rows.row(2, 3, Rows.twenty(2)));
        x.dueBytes(1, 144, Rows.row(4, 5, Rows.twenty(4)));
        x.crash(0).due(0);
        x.reopen().due(5);
        x.badAt().due(-1);
        Store y = checks.store(3);
        y.write(1, 11);
        y.snapshot();
        y.write(1, 12);
        y.drop(1);
        y.writeLongs(10, 15);
        y.dueUsed(194, 36, 0);
        y.clean(1, 100, -1).due(1);
        y.find(0, 1, 0).due(11);
        y.length(-1, 1).due(-1);
        y.dueLiving(0, 36 + 17 + 16 + 3 * 36, 36);
    }

    /** The GRAVE lived by the row in 0 until that was cleaned; the equal row in 1 did not. */
    private static void copiesWhatLivesAtItsTurn(Checks checks) {
        Store x = checks.closedStore(4);
        x.forge(0, 0, Rows.row(1, 1, 5));
        x.forge(1, 0, Rows.grave(1, 2));
        x.reopen().due(0);
        x.dueLiving(0, 16, 0, 0);
        x.clean(0, 1, -1).due(2);
        x.count(1).due(0);
        x.count(7).due(-1);
        Store y = checks.closedStore(4);
        y.forge(0, 0, Rows.row(1, 3, 5));
        y.forge(1, 0, Rows.row(1, 3, 6));
        y.reopen().due(1);
        y.clean(0, 1, -1).due(2);
        y.dueUsed(0, 0, 34, 0);
        y.find(-1, 1, 0).due(5);
    }

    private static void copiesOneOfEqualRows(Checks checks) {
        Store x = checks.closedStore(4);
        x.forge(1, 0, Rows.row(1, 1, 5));
        x.forge(1, 17, Rows.row(1, 1, 5));
        x.forge(2, 0, Rows.row(1, 1, 5));
        x.reopen().due(1);
        x.dueLiving(0, 17, 0, 0);
        x.clean(0, 1, -1).due(2);
        x.dueUsed(17, 0, 0, 0);
        x.dueLiving(17, 0, 0, 0);
    }

    private static void keepsTheOrderOfPlaces(Checks checks) {
        Store x = checks.closedStore(2);
        int[] numbers = {5, 2, 9, 1, 7};
        for (int i = 0; i < numbers.length; i++) {
            x.forge(0, i * 17, Rows.row(900 - i, numbers[i], i));
        }
        x.reopen().due(5);
        x.clean(0, 1, -1).due(1);
        for (int i = 0; i < numbers.length; i++) {
            x.dueBytes(1, i * 17, Rows.row(900 - i, numbers[i], i));
        }
    }

    /** The first copy goes behind the last row, the second has no room there and takes the rest along. */
    private static void copiesToWhereARowWouldBeWritten(Checks checks) {
        Store x = checks.store(3);
        x.write(1, 1);
        x.writeLong(2);
        x.write(3, 3);
        x.writeLongs(10, 13);
        x.writeLongs(10, 14);
        x.write(20, 0, 0, 0, 4);
        x.dueUsed(178, 164, 0);
        x.clean(1, 2, -1).due(1);
        x.dueUsed(0, 181, 53);
        x.byteAt(1, 164 + 2).due(1);
        x.byteAt(2, 2).due(2);
        x.byteAt(2, 36 + 2).due(3);
        x.count(7).due(2);
        x.put(4);
        x.dueUsed(0, 181, 69);
    }

    private static void keepsTheNumbers(Checks checks) {
        Store x = twoFifthsDead(checks, 3);
        x.clean(0, 1, -1).due(1);
        int[] keys = {1, 3, 0, 2, 4};
        int[] numbers = {6, 7, 1, 3, 5};
        for (int row = 0; row < 5; row++) {
            x.dueBytes(1, row * 36, Rows.row(keys[row], numbers[row], Rows.twenty(keys[row])));
        }
        x.count(2).due(7);
        x.put(9).due(8);
        Store y = checks.closedStore(2);
        y.forge(0, 0, Rows.row(1, Integer.MAX_VALUE, 1));
        y.reopen().due(1);
        y.put(2).due(-4);
        y.clean(0, 1, -1).due(1);
        y.dueBytes(1, 0, Rows.row(1, Integer.MAX_VALUE, 1));
    }

    private static void holdsNoCopyBack(Checks checks) {
        Store x = twoFifthsDead(checks, 3);
        x.clean(0, 1, -1).due(1);
        x.count(3).due(0);
        x.sync().due(0);
        x.crash(0).due(0);
        x.reopen().due(5);
        Store y = twoFifthsDead(checks, 3);
        y.clean(0, 1, -1).due(1);
        y.put(6);
        y.count(3).due(16);
        y.crash(0).due(16);
        y.reopen().due(5);
    }

    private static void zeroesAllBytes(Checks checks) {
        Store x = checks.closedStore(2);
        x.forge(0, 0, Rows.row(1, 1, 1));
        x.forge(0, 18, 9, 8, 7);
        x.forge(0, 199, 255);
        x.reopen().due(1);
        x.clean(0, 1, -1).due(1);
        x.dueZeros(0, 0, 200);
        x.dueUsed(0, 17);
        x.dueBytes(1, 0, Rows.row(1, 1, 1));
        Store y = checks.store(2);
        y.writeLongs(0, 5);
        y.write(5, 1, 2, 3, 4);
        y.writeLongs(0, 4);
        y.clean(1, 2, -1).due(1);
        y.dueZeros(0, 0, 200);
    }

    /** 36 bytes of SEGMENT 0 LIVE, and so many are left in SEGMENT 1, or one less. */
    private static void needsRoomForTheLastByte(Checks checks) {
        for (int more = 4; more <= 5; more++) {
            Store x = checks.store(2);
            x.writeLongs(0, 5);
            x.writeLongs(0, 4);
            x.write(20, new int[more]);
            x.dueUsed(180, 160 + more);
            x.clean(1, 2, -1).due(more == 4 ? 1 : 0);
            x.count(4).due(0);
            x.dueUsed(more == 4 ? 0 : 180, more == 4 ? 200 : 165);
        }
    }

    private static void needsNoRoomForNothing(Checks checks) {
        Store x = checks.store(2);
        x.writeLongs(0, 5);
        x.writeLongs(0, 5);
        x.write(5, 1, 2, 3, 4);
        x.dueUsed(180, 200);
        x.clean(1, 1, -1).due(1);
        x.dueUsed(0, 200);
    }

    /** Two of three survivors would have room: none of them is copied. */
    private static void looksForRoomBeforeItCopies(Checks checks) {
        Store x = twoFifthsDead(checks, 2);
        x.writeLong(5);
        x.clean(0, 1, -1).due(0);
        x.dueUsed(180, 108);
        x.dueZeros(1, 108, 200);
        x.count(7).due(1);
        Store y = twoFifthsDead(checks, 2);
        y.writeLong(5);
        y.clean(0, 1, 36).due(0);
        y.count(4).due(0);
        y.dueUsed(180, 108);
        Store z = twoFifthsDead(checks, 3);
        z.writeLong(5);
        z.clean(2, 5, -1).due(1);
        z.dueUsed(0, 180, 36);
    }

    /** SEGMENT 2 needs no room, but its turn does not come. */
    private static void endsAtTheFirstWithoutRoom(Checks checks) {
        Store x = checks.closedStore(3);
        x.forge(0, 0, Rows.row(1, 1));
        x.forge(1, 0, Rows.row(2, 2, 22));
        x.forge(2, 0, Rows.bytes(2, 3, 9, 9));
        x.reopen().due(2);
        x.clean(0, 1, -1).due(0);
        x.dueUsed(16, 17, 17);
        x.clean(1, 1, -1).due(1);
        x.dueUsed(16, 17, 0);
        x.clean(0, 1, -1).due(2);
        x.dueUsed(0, 0, 33);
        Store y = checks.closedStore(3);
        y.forge(0, 0, 9);
        y.forge(1, 0, Rows.row(2, 2, 22));
        y.forge(2, 0, Rows.row(1, 1));
        y.reopen().due(2);
        y.clean(0, 1, -1).due(3);
        y.dueUsed(33, 0, 0);
    }
}
