import java.util.Random;

/** Runs of mixed calls, the same ones every time, against the Model. */
final class ModelTest {
    private static final Checks CHECKS = new Checks("ModelTest");
    private static final int RUNS = 600;
    private static final int CALLS = 300;

    private final Random random;
    private final int total;
    private final int keys;
    private final GraveSegments real;
    private final Model model;
    private final StringBuilder told = new StringBuilder();

    private ModelTest(int seed) {
        random = new Random(seed);
        int[] totals = {1, 2, 3, 3, 4, 4, 5, 6, 12, random.nextInt(20) - 4};
        int segments = totals[random.nextInt(totals.length)];
        total = Math.max(1, Math.min(12, segments));
        keys = 1 + random.nextInt(12);
        real = new GraveSegments(segments);
        model = new Model(segments);
        told.append("new(").append(segments).append(") ");
    }

    public static void main(String[] args) {
        for (int seed = 1; seed <= RUNS && !CHECKS.anyWrong(); seed++) {
            new ModelTest(seed).run();
        }
        CHECKS.end();
    }

    private void run() {
        for (int call = 0; call < CALLS && !CHECKS.anyWrong(); call++) {
            if (real.count(4) == 1) {
                callClosed();
            } else {
                callOpen();
            }
            compareCounts();
            if (call % 10 == 0) {
                compareAll();
            }
        }
        if (CHECKS.anyWrong()) {
            System.out.println(told);
        }
    }

    private void due(String call, int got, int want) {
        told.append(call).append(" = ").append(got).append("; ");
        CHECKS.due(call, got, want);
    }

    private void callOpen() {
        int chance = random.nextInt(100);
        if (chance < 30) {
            feed();
        } else if (chance < 58) {
            put();
        } else if (chance < 72) {
            drop();
        } else if (chance < 76) {
            due("snapshot()", real.snapshot(), model.snapshot());
        } else if (chance < 80) {
            release();
        } else if (chance < 84) {
            due("sync()", real.sync(), model.sync());
        } else if (chance < 87) {
            crash();
        } else if (chance < 97) {
            clean();
        } else {
            wrongState();
        }
    }

    private void callClosed() {
        int chance = random.nextInt(100);
        if (chance < 30) {
            due("reopen()", real.reopen(), model.reopen());
        } else if (chance < 60) {
            poke();
        } else if (chance < 70) {
            forge();
        } else if (chance < 75) {
            feed();
        } else if (chance < 80) {
            wrongState();
        } else {
            feed();
            put();
            drop();
        }
    }

    private int key() {
        return random.nextInt(40) == 0 ? random.nextInt(1100) - 50 : random.nextInt(keys) * 83;
    }

    private void feed() {
        int b = random.nextInt();
        int n = random.nextInt(30) == 0 ? random.nextInt(9) - 2 : random.nextInt(5);
        due("feed(" + b + ", " + n + ")", real.feed(b, n), model.feed(b, n));
    }

    private void put() {
        int key = key();
        due("put(" + key + ")", real.put(key), model.put(key));
    }

    private void drop() {
        int key = key();
        due("drop(" + key + ")", real.drop(key), model.drop(key));
    }

    private void release() {
        int s = random.nextInt(7) - 1;
        due("release(" + s + ")", real.release(s), model.release(s));
    }

    private void crash() {
        int kept = random.nextInt(Math.max(1, real.count(3) + 10)) - 2;
        due("crash(" + kept + ")", real.crash(kept), model.crash(kept));
    }

    private void clean() {
        int whole = random.nextInt(20) == 0 ? random.nextInt(110) - 4 : 1 + random.nextInt(100);
        int part = random.nextInt(3) == 0 ? 0 : random.nextInt(Math.max(1, whole + 2));
        int kept = random.nextInt(3) != 0 ? -1 : random.nextInt(200) - 2;
        due("clean(" + part + ", " + whole + ", " + kept + ")",
                real.clean(part, whole, kept), model.clean(part, whole, kept));
    }

    private void wrongState() {
        due("reopen() or sync()", real.count(4) == 1 ? real.sync() : real.reopen(), -3);
        due("snapshot() when closed", real.count(4) == 1 ? real.snapshot() : real.poke(0, 0, 1), -3);
        due("clean() when closed", real.count(4) == 1 ? real.clean(0, 1, -1) : real.poke(0, 0, -1), -3);
        due("crash() when closed", real.count(4) == 1 ? real.crash(0) : real.poke(0, 0, 256), -3);
    }

    private void poke() {
        int s = random.nextInt(total);
        int i = random.nextInt(3) == 0 ? 0 : random.nextInt(200);
        int mask = random.nextInt(3) == 0 ? real.byteAt(s, i) : random.nextInt(4) == 0
                ? random.nextInt(300) - 20 : 1 << random.nextInt(8);
        pokeBoth(s, i, mask);
    }

    private void pokeBoth(int s, int i, int mask) {
        due("poke(" + s + ", " + i + ", " + mask + ")", real.poke(s, i, mask), model.poke(s, i, mask));
    }

    /** Sets a row with a fitting SUM where a row may begin, with a NUMBER that others may have. */
    private void forge() {
        int s = random.nextInt(total);
        int at = random.nextInt(4) == 0 ? random.nextInt(185) : real.used(s);
        int number = random.nextInt(30) == 0 ? Integer.MAX_VALUE - random.nextInt(3)
                : random.nextInt(Math.max(2, real.count(2) > 100000 ? 50 : real.count(2) + 5));
        int kind = 1 + random.nextInt(2);
        int[] contents = new int[kind == 1 ? random.nextInt(4) : random.nextInt(10) / 9];
        int[] row = Rows.bytes(kind, Math.max(0, key()), number, contents);
        if (at + row.length > 200) {
            return;
        }
        for (int i = 0; i < row.length; i++) {
            pokeBoth(s, at + i, real.byteAt(s, at + i) ^ row[i]);
        }
    }

    private void compareCounts() {
        for (int what = 0; what < 8; what++) {
            CHECKS.due("count(" + what + ")", real.count(what), model.count(what));
        }
        for (int s = -1; s <= total; s++) {
            CHECKS.due("used(" + s + ")", real.used(s), model.used(s));
            CHECKS.due("living(" + s + ")", real.living(s), model.living(s));
        }
        CHECKS.due("badAt()", real.badAt(), model.badAt());
    }

    private void compareAll() {
        for (int s = 0; s < total; s++) {
            for (int i = 0; i < 200; i++) {
                CHECKS.due("byteAt(" + s + ", " + i + ")", real.byteAt(s, i), model.byteAt(s, i));
            }
        }
        for (int key = 0; key < keys * 83; key += 83) {
            for (int s = -2; s < 5; s++) {
                CHECKS.due("length(" + s + ", " + key + ")", real.length(s, key), model.length(s, key));
                for (int i = -1; i < 21; i += 3) {
                    CHECKS.due("find(" + s + ", " + key + ", " + i + ")",
                            real.find(s, key, i), model.find(s, key, i));
                }
            }
        }
    }
}
