/** Terms: KEYS, CONTENTS, a ROW and its bytes, THE SUM. */
final class TermsRowTest {
    public static void main(String[] args) {
        Checks checks = Checks.ofTerm("KEYS are");
        checks.sentence("KEYS are 0 .. 999.", TermsRowTest::keysAre0To999);
        checks.sentence("CONTENTS are up to 20 bytes.", TermsRowTest::contentsAreUpTo20Bytes);
        checks.sentence("A ROW has a NUMBER (1, 2, .. as they are written), a KEY, and CONTENTS,",
                TermsRowTest::rowHasNumberKeyAndContents);
        checks.sentence("or it is a GRAVE (of a KEY that goes), without.", TermsRowTest::graveIsWithoutContents);
        checks.sentence("In bytes: 1 (2 for a GRAVE),", TermsRowTest::firstByteIs1Or2);
        checks.sentence("the KEY (two),", TermsRowTest::keyHasTwoBytes);
        checks.sentence("the NUMBER (four),", TermsRowTest::numberHasFourBytes);
        checks.sentence("how many bytes of CONTENTS (one), these,", TermsRowTest::lengthHasOneByteBeforeContents);
        checks.sentence("and the SUM (eight); the highest byte first.", TermsRowTest::sumHasEightBytes);
        checks.sentence("THE SUM of a row's bytes before it: s, a long, 0 at first; for each byte b it becomes"
                + " s xor b, turned to the left by 45 bits, times 0x9E3779B97F4A7C15.",
                TermsRowTest::sumIsOfAllBytesBeforeIt);
        checks.end();
    }

    private static void keysAre0To999(Checks checks) {
        Store x = checks.store(2);
        x.put(-1).due(-2);
        x.put(0).due(1);
        x.put(1).due(2);
        x.put(998).due(3);
        x.put(999).due(4);
        x.put(1000).due(-2);
        x.count(0).due(4);
        x.length(-1, -1).due(-1);
        x.length(-1, 0).due(0);
        x.length(-1, 999).due(0);
        x.length(-1, 1000).due(-1);
        x.drop(-1).due(-1);
        x.drop(1000).due(-1);
        x.drop(0).due(5);
        x.drop(999).due(6);
    }

    private static void contentsAreUpTo20Bytes(Checks checks) {
        Store x = checks.store(2);
        x.write(1).due(1);
        x.length(-1, 1).due(0);
        x.find(-1, 1, 0).due(-1);
        x.write(2, Rows.twenty(200)).due(2);
        x.length(-1, 2).due(20);
        x.find(-1, 2, 19).due(200);
        x.find(-1, 2, 20).due(-1);
        for (int n = 1; n <= 20; n++) {
            x.feed(n, 1).due(n);
        }
        x.feed(21, 1).due(-4);
        x.count(6).due(20);
        x.put(3).due(3);
        x.length(-1, 3).due(20);
        x.find(-1, 3, 19).due(20);
    }

    private static void rowHasNumberKeyAndContents(Checks checks) {
        Store x = checks.store(2);
        x.write(7, 70).due(1);
        x.write(8, 80, 81).due(2);
        x.drop(7).due(3);
        x.write(7, 72).due(4);
        x.put(1000).due(-2);
        x.write(8).due(5);
        x.dueBytes(0, 0, Rows.row(7, 1, 70));
        x.dueBytes(0, 17, Rows.row(8, 2, 80, 81));
        x.dueBytes(0, 35, Rows.grave(7, 3));
        x.dueBytes(0, 51, Rows.row(7, 4, 72));
        x.dueBytes(0, 68, Rows.row(8, 5));
    }

    private static void graveIsWithoutContents(Checks checks) {
        Store x = checks.store(1);
        x.write(7, 70, 71);
        x.feed(0x01020304, 4).due(4);
        x.drop(7).due(2);
        x.used(0).due(18 + 16);
        x.byteAt(0, 18 + 7).due(0);
        x.dueBytes(0, 18, Rows.grave(7, 2));
        x.dueZeros(0, 34, 200);
        x.length(-1, 7).due(-1);
        x.count(6).due(4);
    }

    private static void firstByteIs1Or2(Checks checks) {
        Store x = checks.store(1);
        x.put(7);
        x.drop(7);
        x.byteAt(0, 0).due(1);
        x.byteAt(0, 16).due(2);
    }

    private static void keyHasTwoBytes(Checks checks) {
        Store x = checks.store(1);
        int[] keys = {0, 1, 255, 256, 257, 512, 998, 999};
        for (int i = 0; i < keys.length; i++) {
            x.put(keys[i]).due(i + 1);
            x.byteAt(0, i * 16 + 1).due(keys[i] / 256);
            x.byteAt(0, i * 16 + 2).due(keys[i] % 256);
        }
    }

    private static void numberHasFourBytes(Checks checks) {
        int[] numbers = {1, 2, 127, 128, 255, 256, 257, 65535, 65536, 16777215, 16777216, 0x12345678, 0x7FFFFFFF};
        for (int number : numbers) {
            Store x = checks.closedStore(2);
            if (number > 1) {
                x.forge(0, 0, Rows.row(3, number - 1));
            }
            x.reopen();
            x.put(9).due(number);
            int segment = number > 1 ? 1 : 0;
            for (int i = 0; i < 4; i++) {
                x.byteAt(segment, 3 + i).due(number >> 24 - 8 * i & 255);
            }
            x.dueBytes(segment, 0, Rows.row(9, number));
        }
    }

    private static void lengthHasOneByteBeforeContents(Checks checks) {
        for (int size = 0; size <= 20; size++) {
            Store x = checks.store(1);
            int[] contents = new int[size];
            for (int i = 0; i < size; i++) {
                contents[i] = i % 2 == 0 ? 255 - i : i / 2;
            }
            x.write(300, contents).due(1);
            x.byteAt(0, 7).due(size);
            x.dueBytes(0, 8, contents);
            x.used(0).due(16 + size);
        }
    }

    private static void sumHasEightBytes(Checks checks) {
        Store x = checks.store(1);
        x.write(999, 1, 2, 3, 4, 2, 3, 4, 255, 255, 255, 255, 255, 255, 255, 255, 255, 255, 255, 255, 255);
        x.dueBytes(0, 28, 70, 57, 63, 138, 188, 195, 229, 28);
        x.dueZeros(0, 36, 200);
    }

    private static void sumIsOfAllBytesBeforeIt(Checks checks) {
        for (int key = 0; key < 1000; key += 37) {
            Store x = checks.store(1);
            x.write(key, key & 255, 255, 128, 127, 0, 1).due(1);
            x.drop(key).due(2);
            x.dueBytes(0, 0, Rows.row(key, 1, key & 255, 255, 128, 127, 0, 1));
            x.dueBytes(0, 22, Rows.grave(key, 2));
        }
    }
}
