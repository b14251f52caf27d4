/** Terms: SEGMENTS, FREE, IN USE, WRITTEN, and where a row is written. */
final class TermsSegmentsTest {
    public static void main(String[] args) {
        Checks checks = Checks.ofTerm("SEGMENTS 0 .. n - 1");
        checks.sentence("SEGMENTS 0 .. n - 1 have 200 bytes,", TermsSegmentsTest::segmentsHave200Bytes);
        checks.sentence("all 0 at first;", TermsSegmentsTest::bytesAreAll0AtFirst);
        checks.sentence("one is FREE if its first byte is 0, else IN USE.", TermsSegmentsTest::firstByteTellsFree);
        checks.sentence("One of them may be WRITTEN.", TermsSegmentsTest::oneMayBeWritten);
        checks.sentence("A row is written behind the last one of it,", TermsSegmentsTest::rowGoesBehindTheLastOne);
        checks.sentence("if that has room;", TermsSegmentsTest::rowFillsTheLastByte);
        checks.sentence("else the least FREE one is WRITTEN", TermsSegmentsTest::leastFreeOneIsWritten);
        checks.sentence("from then on;", TermsSegmentsTest::earlierOneIsNotWrittenAgain);
        checks.sentence("without one there is no room.", TermsSegmentsTest::noFreeOneIsNoRoom);
        checks.end();
    }

    private static void segmentsHave200Bytes(Checks checks) {
        for (int n = 1; n <= 12; n++) {
            Store x = checks.store(n);
            x.byteAt(-1, 0).dueThrown();
            for (int segment = 0; segment < n; segment++) {
                x.byteAt(segment, -1).dueThrown();
                x.byteAt(segment, 0).due(0);
                x.byteAt(segment, 199).due(0);
                x.byteAt(segment, 200).dueThrown();
            }
            x.byteAt(n, 0).dueThrown();
            x.byteAt(n, 199).dueThrown();
        }
    }

    private static void bytesAreAll0AtFirst(Checks checks) {
        for (int segment = 0; segment < 12; segment++) {
            checks.store(12).dueZeros(segment, 0, 200);
        }
    }

    private static void firstByteTellsFree(Checks checks) {
        Store x = checks.closedStore(3);
        x.poke(1, 1, 255);
        x.poke(1, 199, 255);
        x.count(1).due(0);
        int[] firsts = {1, 2, 3, 128, 255};
        for (int first : firsts) {
            x.poke(0, 0, first).due(first);
            x.count(1).due(1);
            x.poke(0, 0, first).due(0);
            x.count(1).due(0);
        }
        x.poke(0, 0, 255);
        x.reopen();
        x.count(1).due(1);
        x.put(5).due(1);
        x.count(7).due(1);
        x.count(1).due(2);
    }

    private static void oneMayBeWritten(Checks checks) {
        Store x = checks.store(3);
        x.count(7).due(-1);
        x.writeLongs(0, 5);
        x.count(7).due(0);
        x.sync();
        x.count(7).due(0);
        x.writeLong(5);
        x.count(7).due(1);
        x.crash(1000).due(0);
        x.count(7).due(-1);
        x.reopen().due(6);
        x.count(7).due(-1);
        x.put(6);
        x.count(7).due(2);
    }

    private static void rowGoesBehindTheLastOne(Checks checks) {
        Store x = checks.store(2);
        x.write(1, 11);
        x.drop(1);
        x.write(2);
        x.dueBytes(0, 0, Rows.row(1, 1, 11));
        x.dueBytes(0, 17, Rows.grave(1, 2));
        x.dueBytes(0, 33, Rows.row(2, 3));
        x.dueZeros(0, 49, 200);
        x.dueUsed(49, 0);
    }

    private static void rowFillsTheLastByte(Checks checks) {
        Store x = checks.store(2);
        x.writeLongs(0, 5);
        x.write(9, 1, 2, 3, 4).due(6);
        x.dueUsed(200, 0);
        x.count(7).due(0);
        x.dueBytes(0, 180, Rows.row(9, 6, 1, 2, 3, 4));
        Store y = checks.store(2);
        y.writeLongs(0, 5);
        y.write(9, 1, 2, 3, 4, 5).due(6);
        y.dueUsed(180, 21);
        y.count(7).due(1);
        y.dueZeros(0, 180, 200);
        y.dueBytes(1, 0, Rows.row(9, 6, 1, 2, 3, 4, 5));
        Store z = checks.store(2);
        for (int i = 0; i < 12; i++) {
            z.put(i).due(i + 1);
        }
        z.dueUsed(192, 0);
        z.drop(0).due(13);
        z.dueUsed(192, 16);
    }

    private static void leastFreeOneIsWritten(Checks checks) {
        Store x = checks.closedStore(5);
        x.forge(0, 0, Rows.row(900, 70));
        x.forge(2, 0, 77);
        x.poke(3, 1, 5);
        x.reopen().due(1);
        x.writeLong(0).due(71);
        x.count(7).due(1);
        x.writeLongs(1, 5);
        x.count(7).due(1);
        x.writeLong(5).due(76);
        x.count(7).due(3);
        x.clean(1, 1, -1).due(1);
        x.writeLongs(6, 10);
        x.count(7).due(3);
        x.writeLong(10);
        x.count(7).due(2);
        x.dueUsed(16, 180, 36, 180, 0);
    }

    private static void earlierOneIsNotWrittenAgain(Checks checks) {
        Store x = checks.store(3);
        x.writeLongs(0, 5);
        x.writeLong(5).due(6);
        x.put(6).due(7);
        x.dueUsed(180, 52, 0);
        x.count(7).due(1);
    }

    private static void noFreeOneIsNoRoom(Checks checks) {
        Store x = checks.store(1);
        x.writeLongs(0, 5);
        x.write(9, 1, 2, 3, 4, 5).due(-4);
        x.dueUsed(180);
        Store y = checks.store(12);
        for (int i = 0; i < 60; i++) {
            y.writeLong(i % 6).due(i + 1);
        }
        y.count(1).due(12);
        y.count(7).due(11);
        y.put(9).due(61);
        y.put(9).due(-4);
        y.drop(0).due(-4);
        y.clean(1, 1, -1).due(10);
        y.put(9).due(62);
        y.count(7).due(0);
    }
}
