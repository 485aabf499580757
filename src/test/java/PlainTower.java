import java.math.BigInteger;
import java.util.ArrayDeque;
import java.util.ArrayList;
import java.util.Arrays;
import java.util.Collection;
import java.util.HashMap;
import java.util.HashSet;
import java.util.LinkedHashSet;
import java.util.List;
import java.util.Map;
import java.util.Set;
import java.util.TreeMap;

/**
 * The document's words done one by one, with no care for speed or room, and by other ways than the
 * class takes wherever there are two. AgainstPlainTest holds the class against it.
 */
final class PlainTower {
    private static final int NUMBER = -1;
    private static final int FULL = -2;
    private static final int MISSING = -3;
    private static final int SIZE = -4;
    private static final int STATE = -5;
    private static final int KIND = -6;
    private static final int SPENT = -7;
    private static final int NEVER = -8;

    private int k = 2;
    private final List<int[]> writes = new ArrayList<>();
    private final List<int[]> goes = new ArrayList<>();
    private final Object[] sheets = new Object[4];
    private final List<List<Integer>> spots = new ArrayList<>();

    PlainTower() {
        emptyWords();
    }

    private void emptyWords() {
        spots.clear();
        for (int i = 0; i < 8; i++) {
            spots.add(List.of());
        }
    }

    // ---- sheets and states

    int sheet(int r, int kind, int n) {
        if (r < 0 || r > 3 || kind < 0 || kind > 2) return NUMBER;
        if (n < 0) return SIZE;
        if (n > 40) return NUMBER;
        sheets[r] = kind == 0 ? new byte[n] : kind == 1 ? new short[n] : (Object) new int[n];
        return 1;
    }

    private int numbers(int r) {
        return java.lang.reflect.Array.getLength(sheets[r]);
    }

    int cell(int r, int i, int v) {
        if (r < 0 || r > 3) return NUMBER;
        if (sheets[r] == null) return MISSING;
        if (i < 0 || i >= numbers(r)) return NUMBER;
        if (sheets[r] instanceof byte[] bytes) bytes[i] = (byte) v;
        if (sheets[r] instanceof short[] shorts) shorts[i] = (short) v;
        if (sheets[r] instanceof int[] ints) ints[i] = v;
        return 1;
    }

    int told(int r, int i) {
        if (r < 0 || r > 3 || sheets[r] == null || i < 0 || i >= numbers(r)) return Integer.MIN_VALUE;
        return java.lang.reflect.Array.getInt(sheets[r], i);
    }

    int lose(int r) {
        if (r < 0 || r > 3) return NUMBER;
        if (sheets[r] == null) return MISSING;
        sheets[r] = null;
        return 1;
    }

    int letters(int count) {
        if (count < 2 || count > 4) return NUMBER;
        k = count;
        writes.clear();
        goes.clear();
        emptyWords();
        return 1;
    }

    int state(int r, int i) {
        if (r < 0 || r > 3 || i < 0) return NUMBER;
        if (sheets[r] == null) return MISSING;
        int[] write = new int[k];
        int[] go = new int[k];
        for (int x = 0; x < k; x++) {
            write[x] = x;
            go[x] = -1;
            if ((long) i + 2 * x + 1 < numbers(r)) {
                write[x] = told(r, i + 2 * x);
                go[x] = told(r, i + 2 * x + 1);
            }
            if (write[x] < 0 || write[x] >= k || go[x] < -1 || go[x] > 7) return NUMBER;
        }
        if (writes.size() == 8) return FULL;
        writes.add(write);
        goes.add(go);
        return writes.size() - 1;
    }

    int change(int s, int x, int y, int t) {
        if (s < 0 || s >= writes.size() || x < 0 || x >= k || y < 0 || y >= k || t < -1 || t > 7) {
            return NUMBER;
        }
        writes.get(s)[x] = y;
        goes.get(s)[x] = t;
        for (int spot = 0; spot < 8; spot++) {
            for (int t2 : spots.get(spot)) {
                if (t2 < 0 && !back(-t2 - 1)) {
                    spots.set(spot, List.of());
                    break;
                }
            }
        }
        return 1;
    }

    int of(int s, int x, int what) {
        if (s < 0 || s >= writes.size() || what < 0 || what > 2) return -2;
        if (what == 2) return back(s) ? 1 : 0;
        if (x < 0 || x >= k) return -2;
        return what == 0 ? writes.get(s)[x] : goes.get(s)[x];
    }

    int many(int what) {
        if (what == 0) return k;
        if (what == 1) return writes.size();
        if (what == 2) return whole() ? 1 : 0;
        if (what == 3) return tokens().size();
        return -1;
    }

    private boolean whole() {
        for (int[] go : goes) {
            for (int t : go) {
                if (t >= goes.size()) return false;
            }
        }
        return true;
    }

    private boolean back(int s) {
        Set<Integer> come = new LinkedHashSet<>();
        ArrayDeque<Integer> open = new ArrayDeque<>(List.of(s));
        while (!open.isEmpty()) {
            int at = open.pop();
            if (at == -1 || !come.add(at)) continue;
            if (at >= writes.size()) return false;
            if (Arrays.stream(writes.get(at)).distinct().count() != k) return false;
            for (int t : goes.get(at)) open.push(t);
        }
        return true;
    }

    private List<Integer> tokens() {
        List<Integer> all = new ArrayList<>();
        for (int s = 0; s < writes.size(); s++) {
            all.add(s + 1);
            if (back(s)) all.add(-s - 1);
        }
        return all;
    }

    private List<Integer> backTokens() {
        List<Integer> all = new ArrayList<>();
        for (int t : tokens()) {
            if (back(Math.abs(t) - 1)) all.add(t);
        }
        return all;
    }

    // ---- words

    private static List<Integer> reduced(List<Integer> word) {
        List<Integer> left = new ArrayList<>(word);
        boolean found = true;
        while (found) {
            found = false;
            for (int i = 0; i + 1 < left.size() && !found; i++) {
                if (left.get(i) == -left.get(i + 1)) {
                    left.remove(i + 1);
                    left.remove(i);
                    found = true;
                }
            }
        }
        return left;
    }

    private static List<Integer> with(List<Integer> word, List<Integer> more) {
        List<Integer> both = new ArrayList<>(word);
        both.addAll(more);
        return reduced(both);
    }

    private static boolean spot(int... asked) {
        for (int s : asked) {
            if (s < 0 || s > 7) return false;
        }
        return true;
    }

    private int bring(List<Integer> word, int to) {
        if (word.size() > 16) return FULL;
        spots.set(to, word);
        return word.size();
    }

    int put(int spot, int a, int b, int c, int d) {
        if (!spot(spot)) return NUMBER;
        List<Integer> more = new ArrayList<>();
        for (int t : new int[] {a, b, c, d}) {
            if (t == 0) break;
            more.add(t);
        }
        for (int t : more) {
            if (Math.abs((long) t) > writes.size()) return NUMBER;
        }
        for (int t : more) {
            if (t < 0 && !back(-t - 1)) return KIND;
        }
        return bring(with(spots.get(spot), more), spot);
    }

    int wipe(int spot) {
        if (!spot(spot)) return NUMBER;
        int had = spots.get(spot).size();
        spots.set(spot, List.of());
        return had;
    }

    int size(int spot) {
        return spot(spot) ? spots.get(spot).size() : NUMBER;
    }

    int token(int spot, int i) {
        return spot(spot) && i >= 0 && i < spots.get(spot).size() ? spots.get(spot).get(i) : 0;
    }

    int times(int a, int b, int to) {
        if (!spot(a, b, to)) return NUMBER;
        return bring(with(spots.get(a), spots.get(b)), to);
    }

    int turn(int a, int to) {
        if (!spot(a, to)) return NUMBER;
        List<Integer> turned = new ArrayList<>();
        for (int t : spots.get(a)) {
            if (!back(Math.abs(t) - 1)) return KIND;
            turned.add(0, -t);
        }
        return bring(turned, to);
    }

    /** A ROW's LETTERS, or null. */
    private List<Integer> row(int number) {
        if (number < 1) return null;
        String digits = Integer.toString(number, 4);
        if (digits.charAt(0) != '1' || digits.length() > 11) return null;
        List<Integer> row = new ArrayList<>();
        for (char c : digits.substring(1).toCharArray()) {
            if (c - '0' >= k) return null;
            row.add(c - '0');
        }
        return row;
    }

    private static int number(List<Integer> row) {
        int number = 1;
        for (int x : row) number = 4 * number + x;
        return number;
    }

    /** What a TOKEN makes of a ROW; at[0] becomes the TOKEN of where it has come behind that, 0 for IDLE. */
    private List<Integer> made(int token, List<Integer> row, int[] at) {
        List<Integer> made = new ArrayList<>();
        int s = Math.abs(token) - 1;
        for (int letter : row) {
            if (s == -1) {
                made.add(letter);
            } else if (token > 0) {
                made.add(writes.get(s)[letter]);
                s = goes.get(s)[letter];
            } else {
                int x = 0;
                while (writes.get(s)[x] != letter) x++;
                made.add(x);
                s = goes.get(s)[x];
            }
        }
        at[0] = token > 0 ? s + 1 : -(s + 1);
        return made;
    }

    private List<Integer> act(List<Integer> word, List<Integer> row) {
        List<Integer> now = row;
        for (int t : word) now = made(t, now, new int[1]);
        return now;
    }

    private List<Integer> part(List<Integer> word, List<Integer> row) {
        List<Integer> parts = new ArrayList<>();
        List<Integer> now = row;
        for (int t : word) {
            int[] at = new int[1];
            now = made(t, now, at);
            if (at[0] != 0) parts.add(at[0]);
        }
        return reduced(parts);
    }

    int act(int spot, int row) {
        if (!spot(spot) || row(row) == null) return NUMBER;
        if (!whole()) return STATE;
        return number(act(spots.get(spot), row(row)));
    }

    int part(int a, int row, int to) {
        if (!spot(a, to) || row(row) == null) return NUMBER;
        if (!whole()) return STATE;
        return bring(part(spots.get(a), row(row)), to);
    }

    /** THE HEAP of some WORDS, or null if it is SPENT. */
    private Set<List<Integer>> heapOf(Collection<List<Integer>> words) {
        LinkedHashSet<List<Integer>> heap = new LinkedHashSet<>(words);
        ArrayDeque<List<Integer>> open = new ArrayDeque<>(heap);
        while (!open.isEmpty() && heap.size() <= 200) {
            List<Integer> word = open.pop();
            for (int x = 0; x < k; x++) {
                List<Integer> part = part(word, List.of(x));
                if (heap.add(part)) open.add(part);
            }
        }
        return heap.size() > 200 ? null : heap;
    }

    /** The first ROW that parts two WORDS, as its LETTERS; null if there is none. */
    private List<Integer> parting(List<Integer> a, List<Integer> b) {
        Set<List<List<Integer>>> seen = new HashSet<>();
        ArrayDeque<List<List<Integer>>> open = new ArrayDeque<>();
        open.add(List.of(List.of(), a, b));
        while (!open.isEmpty()) {
            List<List<Integer>> at = open.pop();
            if (!seen.add(at.subList(1, 3))) continue;
            for (int x = 0; x < k; x++) {
                List<Integer> longer = new ArrayList<>(at.get(0));
                longer.add(x);
                if (!act(at.get(1), List.of(x)).equals(act(at.get(2), List.of(x)))) return longer;
                open.add(List.of(longer, part(at.get(1), List.of(x)), part(at.get(2), List.of(x))));
            }
        }
        return null;
    }

    private boolean alike(List<Integer> a, List<Integer> b) {
        return a.equals(b) || parting(a, b) == null;
    }

    private int unlike(Collection<List<Integer>> words) {
        List<List<Integer>> one = new ArrayList<>();
        for (List<Integer> word : words) {
            if (one.stream().noneMatch(other -> alike(other, word))) one.add(word);
        }
        return one.size();
    }

    private int refusal(int a, int b) {
        if (!spot(a, b)) return NUMBER;
        if (!whole()) return STATE;
        return heapOf(List.of(spots.get(a), spots.get(b))) == null ? SPENT : 0;
    }

    int same(int a, int b) {
        int refusal = refusal(a, b);
        return refusal < 0 ? refusal : alike(spots.get(a), spots.get(b)) ? 1 : 0;
    }

    int apart(int a, int b) {
        int refusal = refusal(a, b);
        if (refusal < 0) return refusal;
        List<Integer> row = parting(spots.get(a), spots.get(b));
        return row == null || row.size() > 14 ? NEVER : number(row);
    }

    int heap(int a) {
        int refusal = refusal(a, a);
        return refusal < 0 ? refusal : heapOf(List.of(spots.get(a))).size();
    }

    int least(int a) {
        int refusal = refusal(a, a);
        return refusal < 0 ? refusal : unlike(heapOf(List.of(spots.get(a))));
    }

    // ---- levels

    private boolean level(int n, int most) {
        return n >= 0 && n <= 10 && Math.pow(k, n) <= most;
    }

    private List<List<Integer>> rows(int n) {
        List<List<Integer>> rows = new ArrayList<>();
        rows.add(List.of());
        for (int i = 0; i < n; i++) {
            List<List<Integer>> longer = new ArrayList<>();
            for (List<Integer> row : rows) {
                for (int x = 0; x < k; x++) {
                    List<Integer> next = new ArrayList<>(row);
                    next.add(x);
                    longer.add(next);
                }
            }
            rows = longer;
        }
        return rows;
    }

    int order(int a, int n) {
        if (!spot(a) || !level(n, 256)) return NUMBER;
        if (!whole()) return STATE;
        for (int t : spots.get(a)) {
            if (!back(Math.abs(t) - 1)) return KIND;
        }
        BigInteger order = BigInteger.ONE;
        for (List<Integer> row : rows(n)) {
            int m = 0;
            List<Integer> now = row;
            do {
                now = act(spots.get(a), now);
                m++;
            } while (!now.equals(row));
            BigInteger ring = BigInteger.valueOf(m);
            order = order.multiply(ring).divide(order.gcd(ring));
        }
        return order.compareTo(BigInteger.valueOf(1000000)) > 0 ? SPENT : order.intValue();
    }

    /** The DISTANCES of all ROWS to which MOVES of some TOKENS lead. */
    private Map<List<Integer>, Integer> distances(List<Integer> from, List<Integer> tokens) {
        Map<List<Integer>, Integer> distances = new HashMap<>();
        distances.put(from, 0);
        ArrayDeque<List<Integer>> open = new ArrayDeque<>(List.of(from));
        while (!open.isEmpty()) {
            List<Integer> at = open.pop();
            for (int t : tokens) {
                List<Integer> next = made(t, at, new int[1]);
                if (distances.putIfAbsent(next, distances.get(at) + 1) == null) open.add(next);
            }
        }
        return distances;
    }

    int orbits(int n) {
        if (!level(n, 256)) return NUMBER;
        if (!whole()) return STATE;
        Set<List<Integer>> left = new LinkedHashSet<>(rows(n));
        List<Integer> tokens = backTokens();
        int orbits = 0;
        while (!left.isEmpty()) {
            orbits++;
            left.removeAll(distances(left.iterator().next(), tokens).keySet());
        }
        return orbits;
    }

    private boolean levelRow(int row) {
        return row(row) != null && level(row(row).size(), 256);
    }

    int orbit(int row) {
        if (!levelRow(row)) return NUMBER;
        if (!whole()) return STATE;
        return distances(row(row), tokens()).size();
    }

    int far(int from, int to) {
        if (!levelRow(from) || row(to) == null || row(from).size() != row(to).size()) return NUMBER;
        if (!whole()) return STATE;
        Integer far = distances(row(from), tokens()).get(row(to));
        return far == null ? NEVER : far;
    }

    /** Each TOKEN of the way is the first one that brings the goal nearer. */
    int way(int from, int to, int i) {
        int far = far(from, to);
        if (far < 0 || i < 0 || i >= far) return 0;
        List<Integer> at = row(from);
        for (int move = 0; ; move++) {
            for (int t : tokens()) {
                List<Integer> next = made(t, at, new int[1]);
                if (far(number(next), to) == far - move - 1) {
                    if (move == i) return t;
                    at = next;
                    break;
                }
            }
        }
    }

    int reach(int row) {
        if (!levelRow(row)) return NUMBER;
        if (!whole()) return STATE;
        return distances(row(row), tokens()).values().stream().max(Integer::compare).get();
    }

    int group(int n) {
        if (!level(n, 16)) return NUMBER;
        if (!whole()) return STATE;
        Map<Integer, int[]> moves = new TreeMap<>();
        List<List<Integer>> rows = rows(n);
        for (int t : backTokens()) {
            int[] move = new int[rows.size()];
            for (int i = 0; i < move.length; i++) move[i] = rows.indexOf(made(t, rows.get(i), new int[1]));
            moves.put(t, move);
        }
        List<Integer> still = new ArrayList<>();
        for (int i = 0; i < rows.size(); i++) still.add(i);
        Set<List<Integer>> group = new HashSet<>(List.of(still));
        ArrayDeque<List<Integer>> open = new ArrayDeque<>(group);
        while (!open.isEmpty() && group.size() <= 3000) {
            List<Integer> at = open.pop();
            for (int[] move : moves.values()) {
                List<Integer> next = new ArrayList<>();
                for (int i : at) next.add(move[i]);
                if (group.add(next)) open.add(next);
            }
        }
        return group.size() > 3000 ? SPENT : group.size();
    }

    // ---- short words

    private static int place(int token) {
        return 2 * Math.abs(token) + (token < 0 ? 1 : 0);
    }

    /** All REDUCED WORDS of at most m TOKENS, sorted as the document sorts; null if SPENT. */
    private List<List<Integer>> within(int m) {
        Set<List<Integer>> words = new HashSet<>();
        words.add(List.of());
        for (int i = 0; i < m && words.size() <= 200; i++) {
            for (List<Integer> word : new ArrayList<>(words)) {
                for (int t : tokens()) words.add(with(word, List.of(t)));
            }
        }
        if (words.size() > 200) return null;
        List<List<Integer>> sorted = new ArrayList<>(words);
        sorted.sort((a, b) -> {
            if (a.size() != b.size()) return a.size() - b.size();
            for (int i = 0; i < a.size(); i++) {
                if (!a.get(i).equals(b.get(i))) return place(a.get(i)) - place(b.get(i));
            }
            return 0;
        });
        return sorted;
    }

    private int refusalWithin(int m) {
        if (m < 0 || m > 5) return NUMBER;
        if (!whole()) return STATE;
        return within(m) == null ? SPENT : 0;
    }

    int growth(int m) {
        int refusal = refusalWithin(m);
        return refusal < 0 ? refusal : unlike(within(m));
    }

    private List<List<Integer>> lawsOf(int m) {
        List<List<Integer>> laws = new ArrayList<>();
        for (List<Integer> word : within(m)) {
            if (!word.isEmpty() && alike(word, List.of())) laws.add(word);
        }
        return laws;
    }

    int laws(int m) {
        int refusal = refusalWithin(m);
        return refusal < 0 ? refusal : lawsOf(m).size();
    }

    int law(int m, int i, int to) {
        if (!spot(to)) return NUMBER;
        int refusal = refusalWithin(m);
        if (refusal < 0) return refusal;
        List<List<Integer>> laws = lawsOf(m);
        return i < 0 || i >= laws.size() ? NEVER : bring(laws.get(i), to);
    }

    /** The CLOSED heap, or null if it is SPENT. */
    private List<List<Integer>> closed(int d) {
        List<List<Integer>> heap = new ArrayList<>();
        heap.add(List.of());
        for (int t : tokens()) heap.add(List.of(t));
        Set<List<Integer>> all = new LinkedHashSet<>(heap);
        for (int at = 0; at < heap.size(); at++) {
            for (int t : tokens()) {
                List<Integer> longer = with(heap.get(at), List.of(t));
                if (longer.size() > 16) return null;
                for (List<Integer> row : rows(d)) {
                    List<Integer> part = part(longer, row);
                    if (all.add(part) && heapOf(all) == null) return null;
                    if (heap.stream().noneMatch(word -> alike(word, part))) {
                        if (heap.size() == 20) return null;
                        heap.add(part);
                    }
                }
            }
        }
        return heap;
    }

    int fall(int d) {
        if (d < 1 || d > 2) return NUMBER;
        if (!whole()) return STATE;
        List<List<Integer>> heap = closed(d);
        return heap == null ? SPENT : heap.size();
    }

    int fallen(int d, int i, int to) {
        if (!spot(to) || d < 1 || d > 2) return NUMBER;
        if (!whole()) return STATE;
        List<List<Integer>> heap = closed(d);
        if (heap == null) return SPENT;
        return i < 0 || i >= heap.size() ? NEVER : bring(heap.get(i), to);
    }
}
