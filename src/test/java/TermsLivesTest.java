/** Terms: which rows LIVE. */
final class TermsLivesTest {
    public static void main(String[] args) {
        Checks checks = Checks.ofTerm("A row LIVES");
        checks.sentence("A row LIVES if it is that row of its KEY now,", TermsLivesTest::rowOfNowLives);
        checks.sentence("or at the MOMENT of a snapshot that is open;", TermsLivesTest::rowOfAMomentLives);
        checks.sentence("a snapshot that is open;", TermsLivesTest::rowOfAReleasedSnapshotDoesNot);
        checks.sentence("a GRAVE only if there is a row of its KEY with a lesser NUMBER as well.",
                TermsLivesTest::graveLivesWithALesserRow);
        checks.sentence("with a lesser NUMBER as well.", TermsLivesTest::graveDoesNotLiveWithoutALesserRow);
        checks.sentence("(Of rows with one KEY and one NUMBER the first one, by SEGMENTS and places, is the row;",
                TermsLivesTest::firstOfEqualRowsIsTheRow);
        checks.sentence("others count for nothing.)", TermsLivesTest::otherEqualRowsCountForNothing);
        checks.end();
    }

    private static void rowOfNowLives(Checks checks) {
        Store x = checks.store(3);
        x.living(0).due(0);
        x.write(1, 1, 2, 3);
        x.living(0).due(19);
        x.write(2);
        x.living(0).due(35);
        x.write(1, 9);
        x.living(0).due(33);
        x.writeLongs(10, 15);
        x.dueLiving(177, 36, 0);
        x.writeLong(1);
        x.dueLiving(160, 72, 0);
    }

    private static void rowOfAMomentLives(Checks checks) {
        Store x = checks.store(1);
        x.snapshot();
        x.write(1, 1);
        x.write(2, 1, 1);
        x.snapshot();
        x.write(1, 1, 1, 1);
        x.write(1, 1, 1, 1, 1);
        x.snapshot();
        x.snapshot();
        x.write(1);
        x.living(0).due(17 + 18 + 20 + 16);
        x.release(0);
        x.living(0).due(17 + 18 + 20 + 16);
        x.release(2);
        x.living(0).due(17 + 18 + 20 + 16);
    }

    private static void rowOfAReleasedSnapshotDoesNot(Checks checks) {
        Store x = checks.store(1);
        x.write(1, 1);
        x.snapshot();
        x.write(1, 1, 1);
        x.snapshot();
        x.write(1);
        x.living(0).due(17 + 18 + 16);
        x.release(0);
        x.living(0).due(18 + 16);
        x.release(1);
        x.living(0).due(16);
    }

    private static void graveLivesWithALesserRow(Checks checks) {
        Store x = checks.store(3);
        x.write(1, 1);
        x.drop(1);
        x.living(0).due(16);
        x.write(1, 2);
        x.living(0).due(17);
        x.drop(1);
        x.snapshot();
        x.write(1, 3);
        x.living(0).due(33);
        x.release(0);
        x.living(0).due(17);
        Store y = checks.closedStore(2);
        y.forge(0, 0, Rows.grave(3, 9));
        y.forge(1, 0, Rows.grave(3, 8));
        y.reopen().due(0);
        y.dueLiving(16, 0);
    }

    private static void graveDoesNotLiveWithoutALesserRow(Checks checks) {
        Store x = checks.closedStore(1);
        x.forge(0, 0, Rows.grave(1, 5));
        x.forge(0, 16, Rows.row(1, 7, 1));
        x.forge(0, 33, Rows.grave(2, 6));
        x.forge(0, 49, Rows.grave(2, 6));
        x.forge(0, 65, Rows.row(3, 2));
        x.reopen().due(2);
        x.living(0).due(17 + 16);
        Store y = checks.closedStore(1);
        y.forge(0, 0, Rows.row(4, 2));
        y.forge(0, 16, Rows.grave(3, 3));
        y.reopen().due(1);
        y.living(0).due(16);
    }

    private static void firstOfEqualRowsIsTheRow(Checks checks) {
        Store x = checks.closedStore(3);
        x.forge(0, 0, Rows.row(1, 3, 8));
        x.forge(1, 0, Rows.row(5, 9, 90));
        x.forge(1, 17, Rows.row(5, 9, 91, 91));
        x.forge(1, 35, Rows.grave(1, 3));
        x.forge(2, 0, Rows.grave(5, 9));
        x.reopen().due(2);
        x.length(-1, 5).due(1);
        x.find(-1, 5, 0).due(90);
        x.find(-1, 1, 0).due(8);
        x.dueLiving(17, 17, 0);
        Store y = checks.closedStore(2);
        y.forge(0, 0, Rows.grave(1, 3));
        y.forge(0, 16, Rows.row(1, 3, 8));
        y.forge(1, 0, Rows.row(1, 1));
        y.reopen().due(0);
        y.length(-1, 1).due(-1);
        y.dueLiving(16, 0);
    }

    private static void otherEqualRowsCountForNothing(Checks checks) {
        Store x = checks.closedStore(3);
        x.forge(1, 0, Rows.row(1, 4, 5));
        x.forge(1, 17, Rows.row(1, 4, 6, 6));
        x.forge(2, 0, Rows.row(1, 4, 7));
        x.forge(2, 17, Rows.row(2, 4, 8));
        x.reopen().due(2);
        x.count(0).due(2);
        x.dueLiving(0, 17, 17);
        x.snapshot();
        x.write(1, 9).due(5);
        x.find(0, 1, 0).due(5);
        x.dueLiving(17, 17, 17);
    }
}
