/** Promises 16 to 18: living, used, count. */
final class CountsTest {
    private static final Checks CHECKS = new Checks("CountsTest");
    private static final int[] NO_SEGMENTS = {-1, 3, Integer.MIN_VALUE, Integer.MAX_VALUE};

    public static void main(String[] args) {
        promise16CountsWhatLives();
        promise16CountsGraves();
        promise16CountsTheRowOfEachMoment();
        promises16And17HaveNoOtherSegment();
        promise17CountsWhatWasWritten();
        promise18Counts();
        promise18Throws();
        CHECKS.end();
    }

    private static void promise16CountsWhatLives() {
        GraveSegments x = new GraveSegments(3);
        CHECKS.due("living of nothing", x.living(0), 0);
        Rows.put(x, 1, 1, 2, 3);
        CHECKS.due("living of one", x.living(0), 19);
        Rows.put(x, 2);
        CHECKS.due("living of two", x.living(0), 35);
        Rows.put(x, 1, 9);
        CHECKS.due("living of what is written again", x.living(0), 33);
        for (int i = 0; i < 5; i++) {
            Rows.putLong(x, 1);
        }
        CHECKS.due("living behind the full one", x.living(0), 16);
        CHECKS.due("living of the next", x.living(1), 36);
        CHECKS.due("living of a FREE one", x.living(2), 0);
    }

    private static void promise16CountsGraves() {
        GraveSegments x = new GraveSegments(3);
        Rows.put(x, 1, 1);
        x.drop(1);
        CHECKS.due("living of a GRAVE", x.living(0), 16);
        Rows.put(x, 1, 2);
        CHECKS.due("living of what is there again", x.living(0), 17);
        x.drop(1);
        x.snapshot();
        Rows.put(x, 1, 3);
        CHECKS.due("living with a GRAVE then", x.living(0), 33);
        x.release(0);
        CHECKS.due("living without it", x.living(0), 17);
        GraveSegments y = new GraveSegments(1);
        y.crash(0);
        Rows.set(y, 0, 0, Rows.grave(1, 5));
        Rows.set(y, 0, 16, Rows.row(1, 7, 1));
        Rows.set(y, 0, 33, Rows.grave(2, 6));
        Rows.set(y, 0, 49, Rows.grave(2, 6));
        CHECKS.due("reopen", y.reopen(), 1);
        CHECKS.due("living without a lesser NUMBER", y.living(0), 17);
    }

    private static void promise16CountsTheRowOfEachMoment() {
        GraveSegments x = new GraveSegments(1);
        x.snapshot();
        Rows.put(x, 1, 1);
        Rows.put(x, 2, 1, 1);
        x.snapshot();
        Rows.put(x, 1, 1, 1, 1);
        Rows.put(x, 1, 1, 1, 1, 1);
        x.snapshot();
        Rows.put(x, 1);
        CHECKS.due("living at all", x.living(0), 17 + 18 + 20 + 16);
        x.release(2);
        CHECKS.due("living without 2", x.living(0), 17 + 18 + 16);
        x.release(0);
        CHECKS.due("living without 0", x.living(0), 17 + 18 + 16);
        x.release(1);
        CHECKS.due("living now", x.living(0), 18 + 16);
    }

    private static void promises16And17HaveNoOtherSegment() {
        GraveSegments x = new GraveSegments(3);
        Rows.put(x, 1, 1);
        for (int segment : NO_SEGMENTS) {
            CHECKS.due("living(" + segment + ")", x.living(segment), -1);
            CHECKS.due("used(" + segment + ")", x.used(segment), -1);
        }
        x.crash(0);
        for (int segment : NO_SEGMENTS) {
            CHECKS.due("living when closed", x.living(segment), -1);
            CHECKS.due("used when closed", x.used(segment), -1);
        }
        CHECKS.due("living(0) when closed", x.living(0), -1);
        CHECKS.due("living(1) when closed", x.living(1), -1);
    }

    private static void promise17CountsWhatWasWritten() {
        GraveSegments x = new GraveSegments(3);
        CHECKS.due("used of nothing", x.used(0), 0);
        Rows.put(x, 1, 1);
        x.drop(1);
        CHECKS.due("used", x.used(0), 33);
        x.crash(0);
        CHECKS.due("used when closed", x.used(0), 33);
        x.poke(0, 5, 9);
        CHECKS.due("used when closed and poked", x.used(0), 33);
        x.reopen();
        CHECKS.due("used of what was lost", x.used(0), 0);
        CHECKS.due("used of another", x.used(1), 0);
        Rows.put(x, 1, 1, 2);
        Rows.put(x, 2, 1, 2);
        x.crash(25);
        x.reopen();
        CHECKS.due("used within what is no row", x.used(0), 34);
    }

    private static void promise18Counts() {
        GraveSegments x = new GraveSegments(3);
        dueCounts(x, 0, 0, 0, 0, 0, 0, 0, -1);
        for (int i = 0; i < 5; i++) {
            Rows.putLong(x, i);
        }
        x.snapshot();
        x.snapshot();
        x.drop(3);
        x.feed(1, 3);
        dueCounts(x, 4, 1, 6, 196, 0, 2, 3, 0);
        x.sync();
        x.put(3);
        x.put(3);
        dueCounts(x, 5, 2, 8, 35, 0, 2, 0, 1);
        x.release(0);
        dueCounts(x, 5, 2, 8, 35, 0, 1, 0, 1);
        x.feed(1, 1);
        x.crash(0);
        dueCounts(x, 0, 1, 8, 0, 1, 0, 1, -1);
        x.reopen();
        dueCounts(x, 4, 1, 6, 0, 0, 0, 1, -1);
    }

    private static void promise18Throws() {
        GraveSegments x = new GraveSegments(1);
        int[] others = {-1, 8, 9, Integer.MIN_VALUE, Integer.MAX_VALUE};
        for (int what : others) {
            CHECKS.dueThrow("count(" + what + ")", () -> x.count(what));
        }
        x.crash(0);
        for (int what : others) {
            CHECKS.dueThrow("count(" + what + ") when closed", () -> x.count(what));
        }
    }

    private static void dueCounts(GraveSegments x, int... want) {
        for (int what = 0; what < want.length; what++) {
            CHECKS.due("count(" + what + ")", x.count(what), want[what]);
        }
    }
}
