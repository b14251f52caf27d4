import java.util.ArrayList;
import java.util.Arrays;
import java.util.List;

/** The document said again as plainly as can be: lists, and nothing kept that can be told anew. */
final class Model {
    record Row(int segment, int place, int kind, int key, int number, List<Integer> bytes) {
        int size() {
            return bytes.size();
        }

        boolean isGrave() {
            return kind == 2;
        }
    }

    private final int[][] segments;
    private final int[] used;
    private final List<Row> rows = new ArrayList<>();
    private final List<int[]> heldBack = new ArrayList<>();
    private final Integer[] moments = new Integer[4];
    private final List<Integer> atHand = new ArrayList<>();
    private final List<Integer> badNumbers = new ArrayList<>();
    private int written = -1;
    private int last;
    private boolean closed;

    Model(int told) {
        int n = told < 1 ? 1 : told > 12 ? 12 : told;
        segments = new int[n][200];
        used = new int[n];
    }

    int feed(int b, int n) {
        if (n < 0 || n > 4) {
            return -2;
        }
        if (atHand.size() + n > 20) {
            return -4;
        }
        int[] all = {b >>> 24, b >>> 16 & 255, b >>> 8 & 255, b & 255};
        for (int i = 4 - n; i < 4; i++) {
            atHand.add(all[i]);
        }
        return atHand.size();
    }

    int put(int key) {
        if (closed) {
            return -3;
        }
        if (key < 0 || key > 999) {
            return -2;
        }
        int[] contents = atHand.stream().mapToInt(Integer::intValue).toArray();
        int answer = writeNew(1, key, contents);
        if (answer > 0) {
            atHand.clear();
        }
        return answer;
    }

    int drop(int key) {
        return closed ? -3 : length(-1, key) < 0 ? -1 : writeNew(2, key, new int[0]);
    }

    private int writeNew(int kind, int key, int[] contents) {
        if (last == Integer.MAX_VALUE || target(16 + contents.length, written, used) < 0) {
            return -4;
        }
        last++;
        List<Integer> bytes = new ArrayList<>();
        for (int b : Rows.bytes(kind, key, last, contents)) {
            bytes.add(b);
        }
        write(bytes);
        return last;
    }

    private int target(int size, int now, int[] taken) {
        if (now >= 0 && taken[now] + size <= 200) {
            return now;
        }
        for (int s = 0; s < segments.length; s++) {
            if (segments[s][0] == 0 && s != now) {
                return s;
            }
        }
        return -1;
    }

    private void write(List<Integer> bytes) {
        written = target(bytes.size(), written, used);
        int place = used[written];
        for (int b : bytes) {
            writeByte(b);
        }
        rows.add(rowAt(written, place, bytes.size()));
    }

    private void writeByte(int b) {
        segments[written][used[written]] = b;
        heldBack.add(new int[] {written, used[written]});
        used[written]++;
    }

    private Row rowAt(int s, int p, int size) {
        int[] b = segments[s];
        List<Integer> bytes = new ArrayList<>();
        for (int i = 0; i < size; i++) {
            bytes.add(b[p + i]);
        }
        return new Row(s, p, b[p], b[p + 1] * 256 + b[p + 2], numberAt(s, p), bytes);
    }

    private int numberAt(int s, int p) {
        long n = 0;
        for (int i = 3; i < 7; i++) {
            n = n * 256 + segments[s][p + i];
        }
        return (int) n;
    }

    /** The KEY's row at a moment: of equal ones the first by SEGMENTS and places. */
    private Row rowOf(int key, int moment) {
        return rows.stream()
                .filter(r -> r.key() == key && r.number() <= moment)
                .min((a, b) -> a.number() != b.number() ? Integer.compare(b.number(), a.number())
                        : a.segment() != b.segment() ? Integer.compare(a.segment(), b.segment())
                        : Integer.compare(a.place(), b.place()))
                .orElse(null);
    }

    private boolean lives(Row row) {
        if (row.isGrave()
                && rows.stream().noneMatch(r -> r.key() == row.key() && r.number() < row.number())) {
            return false;
        }
        if (rowOf(row.key(), last) == row) {
            return true;
        }
        for (Integer moment : moments) {
            if (moment != null && rowOf(row.key(), moment) == row) {
                return true;
            }
        }
        return false;
    }

    private Row seen(int snapshot, int key) {
        if (closed || snapshot < -1 || snapshot > 3 || snapshot >= 0 && moments[snapshot] == null) {
            return null;
        }
        Row row = rowOf(key, snapshot == -1 ? last : moments[snapshot]);
        return row == null || row.isGrave() ? null : row;
    }

    int length(int snapshot, int key) {
        Row row = seen(snapshot, key);
        return row == null ? -1 : row.size() - 16;
    }

    int find(int snapshot, int key, int i) {
        Row row = seen(snapshot, key);
        return row == null || i < 0 || i >= row.size() - 16 ? -1 : row.bytes().get(8 + i);
    }

    int snapshot() {
        if (closed) {
            return -3;
        }
        int free = Arrays.asList(moments).indexOf(null);
        if (free < 0) {
            return -4;
        }
        moments[free] = last;
        return free;
    }

    int release(int snapshot) {
        if (closed) {
            return -3;
        }
        if (snapshot < 0 || snapshot > 3 || moments[snapshot] == null) {
            return -1;
        }
        moments[snapshot] = null;
        return 1;
    }

    int sync() {
        if (closed) {
            return -3;
        }
        int were = heldBack.size();
        heldBack.clear();
        return were;
    }

    int crash(int kept) {
        if (closed) {
            return -3;
        }
        if (kept < 0) {
            return -2;
        }
        int lost = 0;
        while (heldBack.size() > kept) {
            int[] where = heldBack.remove(heldBack.size() - 1);
            segments[where[0]][where[1]] = 0;
            lost++;
        }
        close();
        return lost;
    }

    private void close() {
        heldBack.clear();
        closed = true;
    }

    int clean(int part, int whole, int kept) {
        if (closed) {
            return -3;
        }
        if (whole < 1 || whole > 100 || part < 0 || part > whole || kept < -1) {
            return -2;
        }
        sync();
        int zeroed = 0;
        int copied = 0;
        for (int s = 0; s < segments.length; s++) {
            if (segments[s][0] == 0 || s == written || (used[s] - living(s)) * whole < part * used[s]) {
                continue;
            }
            List<Row> survivors = livingRows(s);
            if (!hasRoom(survivors)) {
                return zeroed;
            }
            for (Row row : survivors) {
                if (kept >= 0 && copied + row.size() > kept) {
                    written = target(row.size(), written, used);
                    for (int i = 0; i < kept - copied; i++) {
                        writeByte(row.bytes().get(i));
                    }
                    close();
                    return zeroed;
                }
                copied += row.size();
                write(row.bytes());
            }
            sync();
            Arrays.fill(segments[s], 0);
            used[s] = 0;
            int gone = s;
            rows.removeIf(r -> r.segment() == gone);
            zeroed++;
        }
        return zeroed;
    }

    private List<Row> livingRows(int s) {
        return rows.stream().filter(r -> r.segment() == s && lives(r))
                .sorted((a, b) -> Integer.compare(a.place(), b.place())).toList();
    }

    /** Tries it out on other numbers, taking away every FREE SEGMENT that would be begun. */
    private boolean hasRoom(List<Row> survivors) {
        int[] taken = used.clone();
        int now = written;
        int[] firsts = new int[segments.length];
        for (int s = 0; s < segments.length; s++) {
            firsts[s] = segments[s][0];
        }
        boolean room = true;
        for (Row row : survivors) {
            now = target(row.size(), now, taken);
            if (now < 0) {
                room = false;
                break;
            }
            taken[now] += row.size();
            segments[now][0] = 1;
        }
        for (int s = 0; s < segments.length; s++) {
            segments[s][0] = firsts[s];
        }
        return room;
    }

    int reopen() {
        if (!closed) {
            return -3;
        }
        closed = false;
        rows.clear();
        badNumbers.clear();
        Arrays.fill(moments, null);
        written = -1;
        for (int s = 0; s < segments.length; s++) {
            used[s] = read(s);
        }
        last = rows.stream().mapToInt(Row::number).max().orElse(0);
        return count(0);
    }

    private int read(int s) {
        int p = 0;
        while (p < 200 && segments[s][p] != 0) {
            int kind = segments[s][p];
            int length = p + 7 < 200 ? segments[s][p + 7] : 1000;
            boolean whole = (kind == 1 || kind == 2) && length <= 20 && p + 16 + length <= 200;
            if (whole && isGood(rowAt(s, p, 16 + length))) {
                rows.add(rowAt(s, p, 16 + length));
            } else {
                badNumbers.add(p + 6 < 200 ? numberAt(s, p) : 0);
            }
            if (!whole) {
                return p;
            }
            p += 16 + length;
        }
        return p;
    }

    private static boolean isGood(Row row) {
        int[] bytes = row.bytes().stream().mapToInt(Integer::intValue).toArray();
        int[] sealed = bytes.clone();
        Rows.seal(sealed);
        return row.key() <= 999 && row.number() > 0 && !(row.isGrave() && bytes.length != 16)
                && Arrays.equals(bytes, sealed);
    }

    int badAt() {
        return badNumbers.isEmpty() ? -1 : badNumbers.get(0);
    }

    int poke(int segment, int i, int mask) {
        if (!closed) {
            return -3;
        }
        if (mask < 0 || mask > 255) {
            return -2;
        }
        segments[segment][i] ^= mask;
        return segments[segment][i];
    }

    int byteAt(int segment, int i) {
        return segments[segment][i];
    }

    int living(int segment) {
        if (segment < 0 || segment >= segments.length || closed) {
            return -1;
        }
        return livingRows(segment).stream().mapToInt(Row::size).sum();
    }

    int used(int segment) {
        return segment < 0 || segment >= segments.length ? -1 : used[segment];
    }

    int count(int what) {
        return switch (what) {
            case 0 -> (int) rows.stream().mapToInt(Row::key).distinct().filter(k -> seen(-1, k) != null).count();
            case 1 -> (int) Arrays.stream(segments).filter(s -> s[0] != 0).count();
            case 2 -> last;
            case 3 -> heldBack.size();
            case 4 -> closed ? 1 : 0;
            case 5 -> closed ? 0 : (int) Arrays.stream(moments).filter(m -> m != null).count();
            case 6 -> atHand.size();
            case 7 -> closed ? -1 : written;
            default -> throw new ArrayIndexOutOfBoundsException();
        };
    }
}
