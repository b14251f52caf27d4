/** Terms: THE MOMENT of a snapshot, and what a KEY has at it. */
final class TermsMomentTest {
    public static void main(String[] args) {
        Checks checks = Checks.ofTerm("THE MOMENT");
        checks.sentence("THE MOMENT of a snapshot is the NUMBER written last then.",
                TermsMomentTest::momentIsTheNumberWrittenLast);
        checks.sentence("the NUMBER written last then.", TermsMomentTest::copiesDoNotMoveTheMoment);
        checks.sentence("What a KEY has at a MOMENT: the CONTENTS of its row of the greatest NUMBER",
                TermsMomentTest::greatestNumberCountsNotThePlace);
        checks.sentence("up to that;", TermsMomentTest::numberOfTheMomentCountsToo);
        checks.sentence("nothing if that is a GRAVE,", TermsMomentTest::graveIsNothing);
        checks.sentence("or there is none.", TermsMomentTest::noRowIsNothing);
        checks.end();
    }

    private static void momentIsTheNumberWrittenLast(Checks checks) {
        Store x = checks.store(3);
        x.snapshot().due(0);
        x.write(5, 10);
        x.snapshot().due(1);
        x.snapshot().due(2);
        x.write(5, 20);
        x.put(1000).due(-2);
        x.snapshot().due(3);
        x.write(5, 30);
        x.find(0, 5, 0).due(-1);
        x.find(1, 5, 0).due(10);
        x.find(2, 5, 0).due(10);
        x.find(3, 5, 0).due(20);
        x.find(-1, 5, 0).due(30);
    }

    /** What is copied last has a lesser NUMBER, and the MOMENT must not be that one. */
    private static void copiesDoNotMoveTheMoment(Checks checks) {
        Store x = checks.store(3);
        x.write(1, 11);
        x.writeLongs(10, 15);
        x.write(1, 12);
        x.write(2, 13);
        x.clean(1, 100, -1).due(1);
        x.byteAt(2, 6).due(6);
        x.count(2).due(8);
        x.snapshot().due(0);
        x.find(0, 1, 0).due(12);
        x.find(0, 2, 0).due(13);
        x.write(2, 14).due(9);
        x.find(0, 2, 0).due(13);
    }

    private static void greatestNumberCountsNotThePlace(Checks checks) {
        Store x = checks.closedStore(3);
        x.forge(0, 0, Rows.row(5, 9, 90));
        x.forge(0, 17, Rows.row(5, 4, 40, 41));
        x.forge(1, 0, Rows.row(5, 7, 70));
        x.forge(1, 17, Rows.grave(6, 12));
        x.forge(2, 0, Rows.row(6, 11, 1));
        x.forge(2, 17, Rows.row(7, 10, 3));
        x.reopen().due(2);
        x.find(-1, 5, 0).due(90);
        x.length(-1, 5).due(1);
        x.length(-1, 6).due(-1);
        x.find(-1, 7, 0).due(3);
    }

    private static void numberOfTheMomentCountsToo(Checks checks) {
        Store x = checks.store(3);
        x.write(1, 11).due(1);
        x.write(5, 12).due(2);
        x.snapshot();
        x.write(5, 13).due(3);
        x.snapshot();
        x.drop(5).due(4);
        x.snapshot();
        x.write(5, 15).due(5);
        x.find(0, 5, 0).due(12);
        x.find(1, 5, 0).due(13);
        x.find(2, 5, 0).due(-1);
        x.find(-1, 5, 0).due(15);
    }

    private static void graveIsNothing(Checks checks) {
        Store x = checks.store(3);
        x.write(5, 12);
        x.drop(5);
        x.snapshot();
        x.length(0, 5).due(-1);
        x.length(-1, 5).due(-1);
        x.find(-1, 5, 0).due(-1);
        x.count(0).due(0);
        x.put(5);
        x.length(0, 5).due(-1);
        x.length(-1, 5).due(0);
        x.count(0).due(1);
    }

    private static void noRowIsNothing(Checks checks) {
        Store x = checks.store(1);
        x.snapshot();
        x.length(-1, 5).due(-1);
        x.length(0, 5).due(-1);
        x.write(4, 1);
        x.length(-1, 5).due(-1);
        x.length(0, 4).due(-1);
        x.length(-1, 4).due(1);
    }
}
