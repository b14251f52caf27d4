import java.util.Random;

/** Runs of mixed calls, the same ones every time and each as long as is promised, against the Model. */
final class ModelTest {
    private static final int RUNS = 8000;

    private final Random random;
    private final int total;
    private final int keys;
    private final Store real;
    private final Model model;

    private ModelTest(Checks checks, int seed) {
        random = new Random(seed);
        int[] totals = {1, 2, 3, 3, 4, 4, 5, 6, 12, random.nextInt(20) - 4};
        int segments = totals[random.nextInt(totals.length)];
        total = Math.max(1, Math.min(12, segments));
        keys = 1 + random.nextInt(12);
        real = checks.store(segments);
        model = new Model(segments);
    }

    public static void main(String[] args) {
        Checks checks = Checks.of("ModelTest");
        for (int seed = 1; seed <= RUNS && !checks.anyWrong(); seed++) {
            new ModelTest(checks, seed).run(checks);
        }
        checks.end();
    }

    private void run(Checks checks) {
        while (real.calls() < Store.MOST_CALLS && !checks.anyWrong()) {
            int chance = random.nextInt(100);
            if (chance < 30) {
                look();
            } else if (model.count(4) == 1) {
                callClosed();
            } else {
                callOpen();
            }
        }
    }

    private void callOpen() {
        int chance = random.nextInt(100);
        if (chance < 30) {
            feed();
        } else if (chance < 58) {
            put();
        } else if (chance < 72) {
            drop();
        } else if (chance < 76) {
            real.snapshot().due(model.snapshot());
        } else if (chance < 80) {
            release();
        } else if (chance < 84) {
            real.sync().due(model.sync());
        } else if (chance < 87) {
            crash();
        } else if (chance < 97) {
            clean();
        } else {
            callAny();
        }
    }

    private void callClosed() {
        int chance = random.nextInt(100);
        if (chance < 30) {
            real.reopen().due(model.reopen());
        } else if (chance < 60) {
            poke();
        } else if (chance < 75) {
            forge();
        } else if (chance < 85) {
            feed();
        } else {
            callAny();
        }
    }

    /** A call in whatever state: mostly one that is refused. */
    private void callAny() {
        switch (random.nextInt(9)) {
            case 0 -> put();
            case 1 -> drop();
            case 2 -> real.snapshot().due(model.snapshot());
            case 3 -> release();
            case 4 -> real.sync().due(model.sync());
            case 5 -> crash();
            case 6 -> clean();
            case 7 -> real.reopen().due(model.reopen());
            default -> poke();
        }
    }

    private void look() {
        int segment = random.nextInt(total + 2) - 1;
        int snapshot = random.nextInt(6) - 1;
        int key = key();
        switch (random.nextInt(10)) {
            case 0, 1, 2 -> lookAtCount(random.nextInt(8));
            case 3 -> real.used(segment).due(model.used(segment));
            case 4 -> real.living(segment).due(model.living(segment));
            case 5 -> real.badAt().due(model.badAt());
            case 6 -> real.length(snapshot, key).due(model.length(snapshot, key));
            case 7 -> lookForByte(snapshot, key, random.nextInt(22) - 1);
            default -> lookAtByte(segment, random.nextInt(202) - 1);
        }
    }

    private void lookAtCount(int what) {
        real.count(what).due(model.count(what));
    }

    private void lookForByte(int snapshot, int key, int i) {
        real.find(snapshot, key, i).due(model.find(snapshot, key, i));
    }

    private void lookAtByte(int segment, int i) {
        if (segment < 0 || segment >= total || i < 0 || i >= 200) {
            real.byteAt(segment, i).dueThrown();
        } else {
            real.byteAt(segment, i).due(model.byteAt(segment, i));
        }
    }

    private int key() {
        return random.nextInt(40) == 0 ? random.nextInt(1100) - 50 : random.nextInt(keys) * 83;
    }

    private void feed() {
        int b = random.nextInt();
        int n = random.nextInt(30) == 0 ? random.nextInt(9) - 2 : random.nextInt(5);
        real.feed(b, n).due(model.feed(b, n));
    }

    private void put() {
        int key = key();
        real.put(key).due(model.put(key));
    }

    private void drop() {
        int key = key();
        real.drop(key).due(model.drop(key));
    }

    private void release() {
        int snapshot = random.nextInt(7) - 1;
        real.release(snapshot).due(model.release(snapshot));
    }

    private void crash() {
        int kept = random.nextInt(model.count(3) + 10) - 2;
        real.crash(kept).due(model.crash(kept));
    }

    private void clean() {
        int whole = random.nextInt(20) == 0 ? random.nextInt(110) - 4 : 1 + random.nextInt(100);
        int part = random.nextInt(3) == 0 ? 0 : random.nextInt(Math.max(1, whole + 2));
        int kept = random.nextInt(3) != 0 ? -1 : random.nextInt(200) - 2;
        real.clean(part, whole, kept).due(model.clean(part, whole, kept));
    }

    private void poke() {
        int segment = random.nextInt(total);
        int i = random.nextInt(3) == 0 ? 0 : random.nextInt(200);
        int mask = switch (random.nextInt(6)) {
            case 0, 1 -> model.byteAt(segment, i);
            case 2 -> random.nextInt(300) - 20;
            default -> 1 << random.nextInt(8);
        };
        real.poke(segment, i, mask).due(model.poke(segment, i, mask));
    }

    /** Sets a row with a fitting SUM where a row may begin, with a NUMBER that others may have. */
    private void forge() {
        int segment = random.nextInt(total);
        int at = random.nextInt(4) == 0 ? random.nextInt(185) : model.used(segment);
        int last = model.count(2);
        int number = random.nextInt(30) == 0 ? Integer.MAX_VALUE - random.nextInt(3)
                : random.nextInt(last > 100000 ? 50 : last + 5);
        int kind = 1 + random.nextInt(2);
        int[] contents = new int[kind == 1 ? random.nextInt(4) : random.nextInt(10) / 9];
        int[] row = Rows.bytes(kind, Math.max(0, key()), number, contents);
        for (int i = 0; i < row.length && at + i < 200 && real.calls() < Store.MOST_CALLS; i++) {
            int mask = model.byteAt(segment, at + i) ^ row[i];
            if (mask != 0) {
                real.poke(segment, at + i, mask).due(model.poke(segment, at + i, mask));
            }
        }
    }
}
