/** Promises 5 to 8: length, find, snapshot, release. */
final class ReadingTest {
    private static final Checks CHECKS = new Checks("ReadingTest");
    private static final int[] NO_SNAPSHOTS = {-2, 4, 5, Integer.MIN_VALUE, Integer.MAX_VALUE};
    private static final int[] NO_KEYS = {-1, 1000, Integer.MIN_VALUE, Integer.MAX_VALUE};

    public static void main(String[] args) {
        promises5And6TellWhatIsThereNow();
        promises5And6TellWhatWasThereThen();
        promises5And6TakeTheGreatestNumber();
        promises5And6TakeTheFirstOfEqualRows();
        promises5And6HaveNothingElse();
        promise7GivesTheLeastNumber();
        promise7KeepsItsMomentThroughCleaning();
        promise8Releases();
        CHECKS.end();
    }

    private static void promises5And6TellWhatIsThereNow() {
        GraveSegments x = new GraveSegments(2);
        Rows.put(x, 0);
        Rows.put(x, 999, 200, 0, 3);
        Rows.putLong(x, 77);
        CHECKS.due("length of nothing", x.length(-1, 0), 0);
        CHECKS.due("find in nothing", x.find(-1, 0, 0), -1);
        CHECKS.due("length", x.length(-1, 999), 3);
        CHECKS.due("find 0", x.find(-1, 999, 0), 200);
        CHECKS.due("find 1", x.find(-1, 999, 1), 0);
        CHECKS.due("find 2", x.find(-1, 999, 2), 3);
        CHECKS.due("find behind the last", x.find(-1, 999, 3), -1);
        CHECKS.due("find before the first", x.find(-1, 999, -1), -1);
        CHECKS.due("find far before", x.find(-1, 999, Integer.MIN_VALUE), -1);
        CHECKS.due("find far behind", x.find(-1, 999, Integer.MAX_VALUE), -1);
        CHECKS.due("length of 20", x.length(-1, 77), 20);
        CHECKS.due("find 19", x.find(-1, 77, 19), 77);
        CHECKS.due("find 20", x.find(-1, 77, 20), -1);
    }

    private static void promises5And6TellWhatWasThereThen() {
        GraveSegments x = new GraveSegments(3);
        x.snapshot();
        Rows.put(x, 5, 10);
        x.snapshot();
        Rows.put(x, 5, 20, 21);
        x.drop(5);
        x.snapshot();
        Rows.put(x, 5, 30, 31, 32);
        int[] lengths = {-1, 1, -1};
        int[] firsts = {-1, 10, -1};
        for (int s = 0; s < 3; s++) {
            CHECKS.due("length at " + s, x.length(s, 5), lengths[s]);
            CHECKS.due("find at " + s, x.find(s, 5, 0), firsts[s]);
        }
        CHECKS.due("length now", x.length(-1, 5), 3);
        CHECKS.due("find now", x.find(-1, 5, 2), 32);
        CHECKS.due("length of another KEY at 1", x.length(1, 6), -1);
        CHECKS.due("find behind the last at 1", x.find(1, 5, 1), -1);
    }

    private static void promises5And6TakeTheGreatestNumber() {
        GraveSegments x = new GraveSegments(3);
        x.crash(0);
        Rows.set(x, 0, 0, Rows.row(5, 9, 90));
        Rows.set(x, 0, 17, Rows.row(5, 4, 40));
        Rows.set(x, 1, 0, Rows.row(5, 7, 70));
        Rows.set(x, 1, 17, Rows.grave(6, 12));
        Rows.set(x, 2, 0, Rows.row(6, 11, 1));
        CHECKS.due("reopen", x.reopen(), 1);
        CHECKS.due("find of the greatest NUMBER", x.find(-1, 5, 0), 90);
        CHECKS.due("length of a GRAVE above", x.length(-1, 6), -1);
    }

    private static void promises5And6TakeTheFirstOfEqualRows() {
        GraveSegments x = new GraveSegments(3);
        x.crash(0);
        Rows.set(x, 0, 0, Rows.row(1, 3, 8));
        Rows.set(x, 1, 0, Rows.row(5, 9, 90));
        Rows.set(x, 1, 17, Rows.row(5, 9, 91, 91));
        Rows.set(x, 1, 35, Rows.grave(1, 3));
        Rows.set(x, 2, 0, Rows.grave(5, 9));
        CHECKS.due("reopen", x.reopen(), 2);
        CHECKS.due("length of the first", x.length(-1, 5), 1);
        CHECKS.due("find of the first", x.find(-1, 5, 0), 90);
        CHECKS.due("find before the GRAVE", x.find(-1, 1, 0), 8);
    }

    private static void promises5And6HaveNothingElse() {
        GraveSegments x = new GraveSegments(1);
        Rows.put(x, 0, 1);
        x.snapshot();
        CHECKS.due("length at 0", x.length(0, 0), 1);
        for (int snapshot : NO_SNAPSHOTS) {
            CHECKS.due("length at " + snapshot, x.length(snapshot, 0), -1);
            CHECKS.due("find at " + snapshot, x.find(snapshot, 0, 0), -1);
        }
        CHECKS.due("length at one not open", x.length(1, 0), -1);
        CHECKS.due("find at one not open", x.find(1, 0, 0), -1);
        for (int key : NO_KEYS) {
            CHECKS.due("length of " + key, x.length(-1, key), -1);
            CHECKS.due("find of " + key, x.find(0, key, 0), -1);
        }
        x.sync();
        x.crash(0);
        CHECKS.due("length when closed", x.length(-1, 0), -1);
        CHECKS.due("length at 0 when closed", x.length(0, 0), -1);
        CHECKS.due("find when closed", x.find(-1, 0, 0), -1);
        x.reopen();
        CHECKS.due("length at 0 opened again", x.length(0, 0), -1);
        CHECKS.due("length opened again", x.length(-1, 0), 1);
    }

    private static void promise7GivesTheLeastNumber() {
        GraveSegments x = new GraveSegments(1);
        for (int s = 0; s < 4; s++) {
            CHECKS.due("snapshot", x.snapshot(), s);
            CHECKS.due("open", x.count(5), s + 1);
        }
        CHECKS.due("a fifth", x.snapshot(), -4);
        x.release(2);
        x.release(1);
        CHECKS.due("the least again", x.snapshot(), 1);
        CHECKS.due("the next again", x.snapshot(), 2);
        CHECKS.due("a fifth again", x.snapshot(), -4);
        x.crash(0);
        CHECKS.due("snapshot when closed", x.snapshot(), -3);
        x.reopen();
        CHECKS.due("snapshot opened again", x.snapshot(), 0);
    }

    private static void promise7KeepsItsMomentThroughCleaning() {
        GraveSegments x = new GraveSegments(4);
        Rows.put(x, 1, 11);
        Rows.put(x, 2, 12);
        x.drop(2);
        x.snapshot();
        Rows.put(x, 1, 21);
        x.snapshot();
        Rows.put(x, 1, 31);
        Rows.put(x, 2, 32);
        for (int i = 0; i < 4; i++) {
            Rows.putLong(x, 50);
        }
        CHECKS.due("clean", x.clean(0, 1, -1), 1);
        CHECKS.due("find at 0", x.find(0, 1, 0), 11);
        CHECKS.due("find at 1", x.find(1, 1, 0), 21);
        CHECKS.due("find now", x.find(-1, 1, 0), 31);
        CHECKS.due("length of what was dropped then", x.length(0, 2), -1);
        CHECKS.due("find of it now", x.find(-1, 2, 0), 32);
    }

    private static void promise8Releases() {
        GraveSegments x = new GraveSegments(1);
        Rows.put(x, 1, 11);
        x.snapshot();
        x.snapshot();
        Rows.put(x, 1, 12);
        CHECKS.due("living", x.living(0), 34);
        CHECKS.due("release", x.release(0), 1);
        CHECKS.due("release again", x.release(0), -1);
        CHECKS.due("living by the other one", x.living(0), 34);
        CHECKS.due("open", x.count(5), 1);
        CHECKS.due("length at one released", x.length(0, 1), -1);
        CHECKS.due("find at one open", x.find(1, 1, 0), 11);
        CHECKS.due("release of the other", x.release(1), 1);
        CHECKS.due("living", x.living(0), 17);
        CHECKS.due("release of NONE", x.release(-1), -1);
        for (int snapshot : NO_SNAPSHOTS) {
            CHECKS.due("release of " + snapshot, x.release(snapshot), -1);
        }
        x.snapshot();
        x.crash(0);
        CHECKS.due("release when closed", x.release(0), -3);
        CHECKS.due("release of none when closed", x.release(9), -3);
        x.reopen();
        CHECKS.due("release of one from before", x.release(0), -1);
    }
}
