/** Terms: CLOSED, and REOPENING. */
final class TermsClosedTest {
    public static void main(String[] args) {
        Checks checks = Checks.ofTerm("CLOSED it is");
        checks.sentence("CLOSED it is after a crash:", TermsClosedTest::closedIsAfterACrash);
        checks.sentence("only put bytes, poke, byteAt, used, reopen, badAt, count go then.",
                TermsClosedTest::onlyTheseGoWhenClosed);
        checks.sentence("REOPENING: SEGMENT by SEGMENT, from byte 0 on,", TermsClosedTest::readsAllSegments);
        checks.sentence("until a byte 0 stands there", TermsClosedTest::stopsAtAByte0);
        checks.sentence("or the SEGMENT ends:", TermsClosedTest::stopsAtTheEnd);
        checks.sentence("a row is GOOD if it begins with 1 or 2,", TermsClosedTest::goodRowBeginsWith1Or2);
        checks.sentence("its KEY is one,", TermsClosedTest::goodRowHasAKey);
        checks.sentence("its NUMBER above 0,", TermsClosedTest::goodRowHasANumberAbove0);
        checks.sentence("its length at most 20", TermsClosedTest::goodRowHasAtMost20Bytes);
        checks.sentence("(0 for a GRAVE),", TermsClosedTest::goodGraveHasNoBytes);
        checks.sentence("it ends within the SEGMENT,", TermsClosedTest::goodRowEndsWithinTheSegment);
        checks.sentence("and has its SUM;", TermsClosedTest::goodRowHasItsSum);
        checks.sentence("otherwise it is BAD: if it begins with 1 or 2 and ends within the SEGMENT by a length of"
                + " at most 20, it goes on behind it,", TermsClosedTest::goesOnBehindABadRow);
        checks.sentence("ends within the SEGMENT by a length of at most 20,",
                TermsClosedTest::goesOnBehindABadRowAtTheEdges);
        checks.sentence("else with the next SEGMENT.", TermsClosedTest::goesOnWithTheNextSegment);
        checks.sentence("All GOOD rows are there then,", TermsClosedTest::allGoodRowsAreThere);
        checks.sentence("none is WRITTEN,", TermsClosedTest::noneIsWritten);
        checks.sentence("no snapshot is open,", TermsClosedTest::noSnapshotIsOpen);
        checks.sentence("the next NUMBER is one more than the greatest of GOOD ones.",
                TermsClosedTest::nextNumberIsBehindTheGreatestGoodOne);
        checks.end();
    }

    private static void closedIsAfterACrash(Checks checks) {
        Store x = checks.store(1);
        x.count(4).due(0);
        x.crash(-1).due(-2);
        x.count(4).due(0);
        x.crash(0).due(0);
        x.count(4).due(1);
        x.crash(0).due(-3);
        x.count(4).due(1);
        x.reopen().due(0);
        x.count(4).due(0);
    }

    private static void onlyTheseGoWhenClosed(Checks checks) {
        Store x = checks.store(2);
        x.write(1, 1);
        x.snapshot();
        x.crash(17).due(0);
        x.feed(1, 2).due(2);
        x.poke(0, 100, 3).due(3);
        x.byteAt(0, 100).due(3);
        x.used(0).due(17);
        x.badAt().due(-1);
        x.count(6).due(2);
        x.put(1).due(-3);
        x.drop(1).due(-3);
        x.length(-1, 1).due(-1);
        x.length(0, 1).due(-1);
        x.find(-1, 1, 0).due(-1);
        x.find(0, 1, 0).due(-1);
        x.snapshot().due(-3);
        x.release(0).due(-3);
        x.sync().due(-3);
        x.crash(0).due(-3);
        x.clean(0, 1, -1).due(-3);
        x.living(0).due(-1);
        x.reopen().due(1);
    }

    private static void readsAllSegments(Checks checks) {
        Store x = checks.closedStore(12);
        for (int segment = 0; segment < 12; segment++) {
            x.forge(segment, 0, Rows.row(segment, 100 - segment, segment));
        }
        x.reopen().due(12);
        for (int segment = 0; segment < 12; segment++) {
            x.find(-1, segment, 0).due(segment);
            x.used(segment).due(17);
        }
    }

    private static void stopsAtAByte0(Checks checks) {
        Store x = checks.closedStore(3);
        x.forge(0, 1, 1, 2, 3);
        x.forge(1, 0, Rows.row(6, 6));
        x.forge(1, 17, Rows.row(7, 7));
        x.forge(2, 1, Rows.row(8, 8));
        x.reopen().due(1);
        x.dueUsed(0, 16, 0);
        x.count(2).due(6);
        x.badAt().due(-1);
        x.length(-1, 7).due(-1);
    }

    private static void stopsAtTheEnd(Checks checks) {
        Store x = checks.store(2);
        x.writeLongs(0, 5);
        x.write(9, 1, 2, 3, 4);
        x.writeLong(10);
        x.crash(1000).due(0);
        x.reopen().due(7);
        x.dueUsed(200, 36);
        x.find(-1, 9, 3).due(4);
        x.badAt().due(-1);
    }

    private static void goodRowBeginsWith1Or2(Checks checks) {
        dueGood(checks, Rows.bytes(1, 5, 3));
        dueGood(checks, Rows.bytes(2, 5, 3));
        int[] others = {3, 4, 127, 128, 129, 130, 254, 255};
        for (int kind : others) {
            dueBad(checks, Rows.bytes(kind, 5, 3));
        }
    }

    private static void goodRowHasAKey(Checks checks) {
        int[] keys = {0, 1, 255, 256, 998, 999};
        for (int key : keys) {
            dueGood(checks, Rows.row(key, 3));
            dueGood(checks, Rows.grave(key, 3));
        }
        int[] others = {1000, 1001, 1023, 1024, 32768, 65535};
        for (int key : others) {
            dueBad(checks, Rows.row(key, 3));
            dueBad(checks, Rows.grave(key, 3));
        }
    }

    private static void goodRowHasANumberAbove0(Checks checks) {
        int[] numbers = {1, 2, 65536, Integer.MAX_VALUE - 1, Integer.MAX_VALUE};
        for (int number : numbers) {
            dueGood(checks, Rows.row(5, number));
            dueGood(checks, Rows.grave(5, number));
        }
        int[] others = {0, -1, -2, Integer.MIN_VALUE, Integer.MIN_VALUE + 1};
        for (int number : others) {
            dueBad(checks, Rows.row(5, number));
            dueBad(checks, Rows.grave(5, number));
        }
    }

    private static void goodRowHasAtMost20Bytes(Checks checks) {
        int[] sizes = {0, 1, 19, 20};
        for (int size : sizes) {
            dueGood(checks, Rows.row(5, 3, new int[size]));
        }
        int[] others = {21, 22, 128, 184};
        for (int size : others) {
            dueBad(checks, Rows.row(5, 3, new int[size]));
        }
    }

    private static void goodGraveHasNoBytes(Checks checks) {
        dueGood(checks, Rows.grave(5, 3));
        int[] others = {1, 2, 19, 20, 21};
        for (int size : others) {
            dueBad(checks, Rows.bytes(Rows.GRAVE, 5, 3, new int[size]));
        }
    }

    /** The last row ends with the SEGMENT's last byte, or would end behind it. */
    private static void goodRowEndsWithinTheSegment(Checks checks) {
        for (int size = 0; size <= 20; size++) {
            for (int over = 0; over <= 1; over++) {
                int at = 200 - 16 - size + over;
                Store x = filledAndClosed(checks, at);
                int rows = x.count(2).value();
                int[] last = Rows.row(800, 900, new int[size]);
                for (int i = 0; at + i < 200 && i < last.length; i++) {
                    x.poke(0, at + i, last[i]);
                }
                x.reopen().due(over == 0 ? rows + 1 : rows);
                x.badAt().due(over == 0 ? -1 : 900);
                x.length(-1, 800).due(over == 0 ? size : -1);
                x.used(0).due(over == 0 ? 200 : at);
            }
        }
    }

    private static void goodRowHasItsSum(Checks checks) {
        int[] row = Rows.row(258, 0x01020304, 7, 8);
        for (int i = 0; i < row.length; i++) {
            for (int bit = 0; bit < 8; bit++) {
                int[] other = row.clone();
                other[i] ^= 1 << bit;
                if (other[0] != 0) {
                    dueBad(checks, other);
                } else {
                    dueNoRow(checks, other);
                }
            }
        }
    }

    private static void goesOnBehindABadRow(Checks checks) {
        int[][] bad = {
            spoilt(Rows.row(5, 3, 1)), spoilt(Rows.grave(5, 3)), Rows.row(1000, 3), Rows.grave(65535, 3),
            Rows.row(5, 0), Rows.grave(5, -1), Rows.bytes(Rows.GRAVE, 5, 3, 9),
            Rows.bytes(Rows.GRAVE, 5, 3, Rows.twenty(9)), spoilt(Rows.row(5, 3, Rows.twenty(1)))};
        for (int[] row : bad) {
            Store x = checks.closedStore(1);
            x.forge(0, 0, row);
            x.forge(0, row.length, Rows.row(4, 9));
            x.reopen().due(1);
            x.used(0).due(row.length + 16);
            x.living(0).due(16);
            x.length(-1, 4).due(0);
            x.length(-1, 5).due(-1);
        }
    }

    /** A kind alone, with 0 behind it, is a BAD row of 16 bytes where so many are left. */
    private static void goesOnBehindABadRowAtTheEdges(Checks checks) {
        for (int kind = 1; kind <= 2; kind++) {
            for (int at = 176; at < 200; at++) {
                Store x = filledAndClosed(checks, at);
                int rows = x.count(2).value();
                x.poke(0, at, kind).due(kind);
                x.reopen().due(rows);
                x.used(0).due(at + 16 <= 200 ? at + 16 : at);
                x.badAt().due(0);
            }
        }
        for (int length = 19; length <= 22; length++) {
            Store x = checks.closedStore(1);
            x.forge(0, 0, 1, 0, 5, 0, 0, 0, 7, length);
            x.forge(0, 16 + length, Rows.row(4, 9));
            x.reopen().due(length <= 20 ? 1 : 0);
            x.used(0).due(length <= 20 ? 32 + length : 0);
        }
    }

    private static void goesOnWithTheNextSegment(Checks checks) {
        int[][] bad = {
            Rows.bytes(3, 5, 3), Rows.bytes(255, 5, 3), Rows.row(5, 3, new int[21]),
            Rows.bytes(Rows.GRAVE, 5, 3, new int[21]), Rows.row(5, 3, new int[100])};
        for (int[] row : bad) {
            Store x = checks.closedStore(2);
            x.forge(0, 0, Rows.row(1, 1));
            x.forge(0, 16, row);
            x.forge(0, 16 + row.length, Rows.row(6, 6));
            x.forge(1, 0, Rows.row(7, 7));
            x.reopen().due(2);
            x.dueUsed(16, 16);
            x.length(-1, 1).due(0);
            x.length(-1, 6).due(-1);
            x.length(-1, 7).due(0);
        }
    }

    private static void allGoodRowsAreThere(Checks checks) {
        Store x = checks.store(3);
        x.write(0, 1).due(1);
        x.writeLong(999).due(2);
        x.write(3).due(3);
        x.drop(3).due(4);
        x.write(0, 2).due(5);
        x.crash(1000).due(0);
        x.reopen().due(2);
        x.badAt().due(-1);
        x.length(-1, 999).due(20);
        x.find(-1, 0, 0).due(2);
        x.length(-1, 3).due(-1);
        x.dueUsed(102, 0, 0);
        x.dueLiving(36 + 16 + 17, 0, 0);
        x.drop(999).due(6);
        x.drop(3).due(-1);
        Store full = checks.closedStore(1);
        for (int i = 0; i < 12; i++) {
            full.forge(0, i * 16, Rows.row(i, i + 1));
        }
        full.reopen().due(12);
        full.living(0).due(192);
    }

    private static void noneIsWritten(Checks checks) {
        Store x = checks.store(2);
        x.write(1, 1);
        x.crash(17).due(0);
        x.reopen().due(1);
        x.count(7).due(-1);
        x.put(2).due(2);
        x.count(7).due(1);
        x.dueUsed(17, 16);
        Store y = checks.store(1);
        y.write(1, 1);
        y.crash(17).due(0);
        y.reopen().due(1);
        y.put(2).due(-4);
    }

    private static void noSnapshotIsOpen(Checks checks) {
        Store x = checks.store(2);
        x.write(1, 1);
        for (int s = 0; s < 4; s++) {
            x.snapshot().due(s);
        }
        x.write(1, 2);
        x.crash(1000).due(0);
        x.reopen().due(1);
        x.count(5).due(0);
        x.living(0).due(17);
        for (int s = 0; s < 4; s++) {
            x.length(s, 1).due(-1);
            x.release(s).due(-1);
        }
        x.snapshot().due(0);
    }

    private static void nextNumberIsBehindTheGreatestGoodOne(Checks checks) {
        Store x = checks.closedStore(3);
        x.forge(0, 0, Rows.row(1, 50));
        x.forge(0, 16, Rows.grave(2, 70));
        x.forge(0, 32, spoilt(Rows.row(3, 90)));
        x.forge(1, 0, Rows.row(4, 60));
        x.reopen().due(2);
        x.count(2).due(70);
        x.put(5).due(71);
        Store none = checks.store(2);
        none.write(1, 1).due(1);
        none.write(1, 1).due(2);
        none.crash(16).due(18);
        none.reopen().due(0);
        none.count(2).due(0);
        none.put(1).due(1);
        Store again = checks.store(2);
        again.write(1, 1).due(1);
        again.write(1, 2).due(2);
        again.write(1, 3).due(3);
        again.crash(50).due(1);
        again.reopen().due(1);
        again.find(-1, 1, 0).due(2);
        again.put(1).due(3);
        Store last = checks.closedStore(2);
        last.forge(0, 0, Rows.row(1, Integer.MAX_VALUE));
        last.reopen().due(1);
        last.count(2).due(Integer.MAX_VALUE);
        last.put(5).due(-4);
    }

    /** A row whose SUM does not fit. */
    private static int[] spoilt(int[] row) {
        int[] other = row.clone();
        other[other.length - 1] ^= 1;
        return other;
    }

    private static void dueGood(Checks checks, int[] row) {
        Store x = checks.closedStore(1);
        x.forge(0, 0, row);
        x.reopen().due(row[0] == Rows.ROW ? 1 : 0);
        x.badAt().due(-1);
        x.count(2).due(numberIn(row));
        x.used(0).due(row.length);
    }

    private static void dueBad(Checks checks, int[] row) {
        Store x = checks.closedStore(1);
        x.forge(0, 0, row);
        x.reopen().due(0);
        x.badAt().due(numberIn(row));
        x.count(2).due(0);
        x.living(0).due(0);
        x.count(1).due(1);
    }

    private static void dueNoRow(Checks checks, int[] row) {
        Store x = checks.closedStore(1);
        x.forge(0, 0, row);
        x.reopen().due(0);
        x.badAt().due(-1);
        x.dueUsed(0);
        x.count(1).due(0);
    }

    private static int numberIn(int[] row) {
        return row[3] << 24 | row[4] << 16 | row[5] << 8 | row[6];
    }

    /** An object whose SEGMENT 0 has rows up to a place, as many as its last NUMBER, and is closed. */
    private static Store filledAndClosed(Checks checks, int end) {
        Store x = checks.store(1);
        int at = 0;
        while (at < end) {
            int left = end - at;
            int size = left <= 36 ? left : Math.min(36, left - 16);
            x.write(at, new int[size - 16]);
            at += size;
        }
        x.used(0).due(end);
        x.crash(1000).due(0);
        return x;
    }
}
