import java.util.function.Consumer;

/** Terms: REFUSALS. */
final class TermsRefusalsTest {
    public static void main(String[] args) {
        Checks checks = Checks.ofTerm("REFUSALS change");
        checks.sentence("REFUSALS change nothing", TermsRefusalsTest::changeNothingWhenOpen);
        checks.sentence("REFUSALS change nothing", TermsRefusalsTest::changeNothingWhenClosed);
        checks.sentence("and answer, the first that fits:", TermsRefusalsTest::answerTheFirstThatFits);
        checks.sentence("-1 an unknown number,", TermsRefusalsTest::minus1IsAnUnknownNumber);
        checks.sentence("-2 outside a range,", TermsRefusalsTest::minus2IsOutsideARange);
        checks.sentence("-3 not in this state (CLOSED, or not),", TermsRefusalsTest::minus3IsNotInThisState);
        checks.sentence("-4 no room;", TermsRefusalsTest::minus4IsNoRoom);
        checks.sentence("-3 before the others.", TermsRefusalsTest::minus3ComesBeforeTheOthers);
        checks.end();
    }

    /** A full object: no room for a row, four snapshots, 20 bytes at hand, some of it HELD BACK. */
    private static void fill(Store x) {
        x.writeLongs(0, 3);
        x.drop(1);
        x.snapshot();
        x.writeLongs(0, 2);
        x.snapshot();
        x.sync();
        x.writeLongs(5, 7);
        x.snapshot();
        x.snapshot();
        x.writeLongs(7, 10);
        x.feed(0x01020304, 4);
        for (int i = 0; i < 4; i++) {
            x.feed(-1, 4);
        }
    }

    private static void refuseWhenOpen(Store x) {
        x.feed(9, -1).due(-2);
        x.feed(9, 5).due(-2);
        x.feed(9, 1).due(-4);
        x.put(-1).due(-2);
        x.put(1000).due(-2);
        x.put(3).due(-4);
        x.drop(3).due(-1);
        x.drop(-1).due(-1);
        x.drop(1000).due(-1);
        x.snapshot().due(-4);
        x.release(-1).due(-1);
        x.release(4).due(-1);
        x.crash(-1).due(-2);
        x.clean(0, 0, -1).due(-2);
        x.clean(2, 1, 0).due(-2);
        x.clean(0, 1, -2).due(-2);
        x.reopen().due(-3);
        x.poke(0, 0, 1).due(-3);
        x.poke(0, 200, 1).dueThrown();
        x.byteAt(2, 0).dueThrown();
        x.count(8).dueThrown();
        x.length(4, 0).due(-1);
        x.find(0, 0, 20).due(-1);
    }

    private static void refuseWhenClosed(Store x) {
        x.feed(9, 5).due(-2);
        x.feed(9, 1).due(-4);
        x.put(3).due(-3);
        x.drop(0).due(-3);
        x.snapshot().due(-3);
        x.release(0).due(-3);
        x.sync().due(-3);
        x.crash(0).due(-3);
        x.clean(0, 1, 0).due(-3);
        x.poke(0, 0, -1).due(-2);
        x.poke(0, 0, 256).due(-2);
        x.poke(2, 0, 1).dueThrown();
        x.poke(0, -1, 1).dueThrown();
        x.byteAt(0, 200).dueThrown();
        x.count(-1).dueThrown();
    }

    private static void changeNothingWhenOpen(Checks checks) {
        dueAlike(checks, TermsRefusalsTest::fill, TermsRefusalsTest::refuseWhenOpen);
    }

    private static void changeNothingWhenClosed(Checks checks) {
        dueAlike(checks, TermsRefusalsTest::fillAndCrash, TermsRefusalsTest::refuseWhenClosed);
    }

    private static void fillAndCrash(Store x) {
        fill(x);
        x.crash(100).due(80);
    }

    /** An object that has refused something answers like one that was never asked. */
    private static void dueAlike(Checks checks, Consumer<Store> run, Consumer<Store> refused) {
        for (int look = 0; look < 5; look++) {
            Store asked = checks.store(2);
            run.accept(asked);
            refused.accept(asked);
            Store other = checks.store(2);
            run.accept(other);
            dueAlikeByLook(asked, other, look);
        }
    }

    private static void dueAlikeByLook(Store asked, Store other, int look) {
        if (look < 2) {
            for (int i = 0; i < 200; i++) {
                asked.byteAt(look, i).due(other.byteAt(look, i).value());
            }
        } else if (look == 2) {
            dueAlikeToReaders(asked, other);
        } else if (look == 3) {
            asked.sync().due(other.sync().value());
            asked.reopen().due(other.reopen().value());
            dueAlikeToReaders(asked, other);
            asked.put(900).due(other.put(900).value());
        } else {
            asked.crash(150).due(other.crash(150).value());
            asked.reopen().due(other.reopen().value());
            dueAlikeToReaders(asked, other);
            asked.clean(1, 3, -1).due(other.clean(1, 3, -1).value());
            asked.put(900).due(other.put(900).value());
            dueAlikeToReaders(asked, other);
        }
    }

    private static void dueAlikeToReaders(Store asked, Store other) {
        for (int what = 0; what < 8; what++) {
            asked.count(what).due(other.count(what).value());
        }
        for (int segment = 0; segment < 2; segment++) {
            asked.used(segment).due(other.used(segment).value());
            asked.living(segment).due(other.living(segment).value());
        }
        asked.badAt().due(other.badAt().value());
        for (int snapshot = -1; snapshot < 4; snapshot++) {
            for (int key = 0; key < 10; key++) {
                asked.find(snapshot, key, 19).due(other.find(snapshot, key, 19).value());
            }
        }
    }

    private static void answerTheFirstThatFits(Checks checks) {
        Store x = checks.store(2);
        fill(x);
        x.feed(9, 5).due(-2);
        x.feed(9, -1).due(-2);
        x.put(1000).due(-2);
        x.put(-1).due(-2);
        x.drop(1000).due(-1);
        x.drop(3).due(-1);
        x.put(3).due(-4);
        x.drop(0).due(12);
        x.drop(2).due(-4);
        x.drop(0).due(-1);
    }

    private static void minus1IsAnUnknownNumber(Checks checks) {
        Store x = checks.store(1);
        x.drop(0).due(-1);
        x.release(0).due(-1);
        x.snapshot().due(0);
        x.release(1).due(-1);
        x.release(0).due(1);
        x.release(0).due(-1);
    }

    private static void minus2IsOutsideARange(Checks checks) {
        Store x = checks.store(1);
        x.feed(0, 5).due(-2);
        x.put(1000).due(-2);
        x.crash(-1).due(-2);
        x.clean(1, 101, -1).due(-2);
        x.crash(0).due(0);
        x.poke(0, 0, 256).due(-2);
        x.feed(0, -1).due(-2);
    }

    private static void minus3IsNotInThisState(Checks checks) {
        Store x = checks.store(1);
        x.reopen().due(-3);
        x.poke(0, 0, 1).due(-3);
        x.crash(0).due(0);
        x.put(0).due(-3);
        x.drop(0).due(-3);
        x.snapshot().due(-3);
        x.release(0).due(-3);
        x.sync().due(-3);
        x.crash(0).due(-3);
        x.clean(0, 1, -1).due(-3);
        x.reopen().due(0);
        x.reopen().due(-3);
    }

    private static void minus4IsNoRoom(Checks checks) {
        Store x = checks.store(2);
        fill(x);
        x.feed(0, 1).due(-4);
        x.put(0).due(-4);
        x.snapshot().due(-4);
        x.drop(0).due(12);
        x.drop(2).due(-4);
    }

    private static void minus3ComesBeforeTheOthers(Checks checks) {
        Store x = checks.store(2);
        fill(x);
        x.poke(0, 0, 256).due(-3);
        x.poke(0, 0, -1).due(-3);
        x.crash(1000).due(0);
        x.put(1000).due(-3);
        x.put(0).due(-3);
        x.drop(1000).due(-3);
        x.drop(3).due(-3);
        x.snapshot().due(-3);
        x.release(4).due(-3);
        x.crash(-1).due(-3);
        x.clean(2, 1, -2).due(-3);
    }
}
