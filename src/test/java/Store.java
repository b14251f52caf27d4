import java.util.ArrayList;
import java.util.List;

/** An object of GraveSegments with the run of calls that it has had, which a wrong answer tells. */
final class Store {
    /** What the document promises ends behind so many calls, so no test may go on beyond them. */
    static final int MOST_CALLS = 512;

    private static final int MOST_TOLD = 12;

    /** A call of the object. */
    private interface Call {
        int answer();
    }

    /** What a call answered, or threw. */
    final class Answer {
        private final int value;
        private final RuntimeException thrown;

        private Answer(int value, RuntimeException thrown) {
            this.value = value;
            this.thrown = thrown;
        }

        int value() {
            return value;
        }

        String text() {
            return thrown == null ? Integer.toString(value) : "throws." + thrown.getClass().getSimpleName();
        }

        void due(int want) {
            if (thrown != null) {
                checks.tell(toldRun() + " .. due is " + want);
            } else if (value != want) {
                checks.due(toldRun() + " .. it", value, want);
            } else {
                checks.due("", value, want);
            }
        }

        void dueThrown() {
            if (thrown == null || thrown.getClass() != ArrayIndexOutOfBoundsException.class) {
                checks.tell(toldRun() + " .. due is throws.ArrayIndexOutOfBoundsException");
            } else {
                checks.due("", 0, 0);
            }
        }
    }

    private final Checks checks;
    private final GraveSegments object;
    private final List<String> run = new ArrayList<>();

    Store(Checks checks, int segments) {
        this.checks = checks;
        this.object = new GraveSegments(segments);
        run.add("new GraveSegments(" + segments + ")");
    }

    Answer feed(int b, int n) {
        return ask(() -> object.feed(b, n), "feed", b, n);
    }

    Answer put(int key) {
        return ask(() -> object.put(key), "put", key);
    }

    Answer drop(int key) {
        return ask(() -> object.drop(key), "drop", key);
    }

    Answer length(int snapshot, int key) {
        return ask(() -> object.length(snapshot, key), "length", snapshot, key);
    }

    Answer find(int snapshot, int key, int i) {
        return ask(() -> object.find(snapshot, key, i), "find", snapshot, key, i);
    }

    Answer snapshot() {
        return ask(object::snapshot, "snapshot");
    }

    Answer release(int snapshot) {
        return ask(() -> object.release(snapshot), "release", snapshot);
    }

    Answer sync() {
        return ask(object::sync, "sync");
    }

    Answer crash(int kept) {
        return ask(() -> object.crash(kept), "crash", kept);
    }

    Answer clean(int part, int whole, int kept) {
        return ask(() -> object.clean(part, whole, kept), "clean", part, whole, kept);
    }

    Answer reopen() {
        return ask(object::reopen, "reopen");
    }

    Answer badAt() {
        return ask(object::badAt, "badAt");
    }

    Answer poke(int segment, int i, int mask) {
        return ask(() -> object.poke(segment, i, mask), "poke", segment, i, mask);
    }

    Answer byteAt(int segment, int i) {
        return ask(() -> object.byteAt(segment, i), "byteAt", segment, i);
    }

    Answer living(int segment) {
        return ask(() -> object.living(segment), "living", segment);
    }

    Answer used(int segment) {
        return ask(() -> object.used(segment), "used", segment);
    }

    Answer count(int what) {
        return ask(() -> object.count(what), "count", what);
    }

    int calls() {
        return run.size() - 1;
    }

    /** Feeds bytes, four by four, and puts them. */
    Answer write(int key, int... contents) {
        for (int i = 0; i < contents.length; i += 4) {
            int n = Math.min(4, contents.length - i);
            int b = 0;
            for (int j = i; j < i + n; j++) {
                b = b << 8 | contents[j];
            }
            feed(b, n);
        }
        return put(key);
    }

    /** A row of 36 bytes: five of them leave 20 bytes of a SEGMENT, where a row of 20 fits. */
    Answer writeLong(int key) {
        return write(key, Rows.twenty(key));
    }

    /** Writes long rows of the KEYS from one up to before another. */
    void writeLongs(int from, int before) {
        for (int key = from; key < before; key++) {
            writeLong(key);
        }
    }

    /** Sets bytes of a closed object where only 0 has stood. */
    void forge(int segment, int at, int... bytes) {
        for (int i = 0; i < bytes.length; i++) {
            if (bytes[i] != 0) {
                poke(segment, at + i, bytes[i]).due(bytes[i]);
            }
        }
    }

    void dueBytes(int segment, int at, int... want) {
        for (int i = 0; i < want.length; i++) {
            byteAt(segment, at + i).due(want[i]);
        }
    }

    void dueZeros(int segment, int from, int before) {
        for (int i = from; i < before; i++) {
            byteAt(segment, i).due(0);
        }
    }

    void dueCounts(int... want) {
        for (int what = 0; what < want.length; what++) {
            count(what).due(want[what]);
        }
    }

    void dueUsed(int... want) {
        for (int segment = 0; segment < want.length; segment++) {
            used(segment).due(want[segment]);
        }
    }

    void dueLiving(int... want) {
        for (int segment = 0; segment < want.length; segment++) {
            living(segment).due(want[segment]);
        }
    }

    private Answer ask(Call call, String name, int... arguments) {
        Answer answer = answerOf(call);
        run.add(told(name, arguments) + " = " + answer.text());
        if (calls() == MOST_CALLS + 1) {
            checks.tell("the test asks more of one object than is promised");
        }
        return answer;
    }

    private Answer answerOf(Call call) {
        try {
            return new Answer(call.answer(), null);
        } catch (RuntimeException e) {
            return new Answer(0, e);
        }
    }

    private static String told(String name, int... arguments) {
        StringBuilder text = new StringBuilder(name).append('(');
        for (int i = 0; i < arguments.length; i++) {
            text.append(i == 0 ? "" : ", ").append(arguments[i]);
        }
        return text.append(')').toString();
    }

    private String toldRun() {
        int left = Math.max(0, run.size() - MOST_TOLD);
        String gap = left == 0 ? "" : ".. " + left + " calls more .. ";
        return gap + String.join("; ", run.subList(left, run.size()));
    }
}
