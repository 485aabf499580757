import java.util.Random;
import java.util.Set;
import java.util.TreeSet;

/** Runs of chosen calls on the class and on PlainTower, with fixed seeds: all answers must be the same. */
public final class AgainstPlainTest {
    private static final String[] CALLS = {
        "sheet", "cell", "told", "lose", "letters", "state", "change", "of", "many", "put", "wipe", "size",
        "token", "times", "turn", "act", "part", "same", "apart", "heap", "least", "order", "orbits",
        "orbit", "far", "way", "reach", "group", "growth", "laws", "law", "fall", "fallen"};
    private static final int[] WEIGHTS = {
        2, 2, 2, 1, 1, 2, 6, 6, 6, 40, 5, 6, 10, 14, 12, 14, 14, 12, 14, 8, 8, 14, 8, 8, 10, 14, 8, 5, 4, 4,
        5, 2, 3};

    /** Which refusals each call may give; an order above a million can't be had with so few ROWS. */
    private static final String[] REFUSALS = {
        "sheet -1", "sheet -4", "cell -1", "cell -3", "told -2147483648", "lose -1", "lose -3", "letters -1",
        "state -1", "state -2", "state -3", "change -1", "of -2", "many -1", "put -1", "put -2", "put -6",
        "wipe -1", "size -1", "times -1", "times -2", "turn -1", "turn -6", "act -1", "act -5", "part -1",
        "part -5", "same -1", "same -5", "same -7", "apart -1", "apart -5", "apart -7", "apart -8", "heap -1",
        "heap -5", "heap -7", "least -1", "least -5", "least -7", "order -1", "order -5", "order -6",
        "orbits -1", "orbits -5", "orbit -1", "orbit -5", "far -1", "far -5", "far -8", "reach -1", "reach -5",
        "group -1", "group -5", "group -7", "growth -1", "growth -5", "growth -7", "laws -1", "laws -5",
        "laws -7", "law -1", "law -5", "law -7", "law -8", "fall -1", "fall -5", "fall -7", "fallen -1",
        "fallen -5", "fallen -7", "fallen -8"};
    private static final Set<String> SEEN = new TreeSet<>();

    private final Random random;
    private final SwitchTower x = new SwitchTower();
    private final PlainTower plain = new PlainTower();
    private final String run;
    private int calls = 0;

    private AgainstPlainTest(String run, long seed) {
        this.run = run;
        this.random = new Random(seed);
    }

    public static void main(String[] args) {
        int runs = args.length > 0 ? Integer.parseInt(args[0]) : 500;
        int first = args.length > 1 ? Integer.parseInt(args[1]) : 0;
        for (int seed = first; seed < first + runs; seed++) {
            AgainstPlainTest test = new AgainstPlainTest("run " + seed, seed);
            test.layMachine();
            for (int i = 0; i < 80; i++) {
                test.call(CALLS[test.chooseCall()]);
            }
            test.compareWords();
        }
        for (String call : CALLS) {
            Due.check(call + " never gave an answer", SEEN.contains(call));
        }
        for (String refusal : REFUSALS) {
            Due.check(refusal + " was never given", SEEN.contains(refusal));
        }
        Due.end();
    }

    private int chooseCall() {
        int all = 0;
        for (int weight : WEIGHTS) {
            all += weight;
        }
        int chosen = random.nextInt(all);
        for (int i = 0; i < WEIGHTS.length; i++) {
            chosen -= WEIGHTS[i];
            if (chosen < 0) {
                return i;
            }
        }
        return 0;
    }

    private int below(int bound) {
        return random.nextInt(bound);
    }

    /** Mostly a number from low to high, now and then one beside these, or a wild one. */
    private int near(int low, int high) {
        int chance = below(40);
        if (chance == 0) {
            return low - 1;
        }
        if (chance == 1) {
            return high + 1;
        }
        if (chance == 2) {
            int[] wild = {Integer.MIN_VALUE, Integer.MAX_VALUE, -7, 1000, Integer.MAX_VALUE - 3};
            return wild[below(wild.length)];
        }
        return low + below(high - low + 1);
    }

    /** Mostly one of the first SPOTS, so that their WORDS grow long. */
    private int spot() {
        return below(2) == 0 ? below(3) : near(0, 7);
    }

    private void layMachine() {
        int k = 2 + below(5) / 2;
        k = Math.min(k, 4);
        compare("letters(" + k + ")", x.letters(k), plain.letters(k));
        int states = below(6) == 0 ? 8 : 1 + below(4);
        int idle = below(4);
        boolean careless = below(4) == 0;
        for (int s = 0; s < states; s++) {
            layState(k, states, idle, careless);
        }
    }

    private void layState(int k, int states, int idle, boolean careless) {
        int kind = below(3);
        int n = 2 * k - (below(10) == 0 ? below(4) : 0);
        int r = below(4);
        compare("sheet", x.sheet(r, kind, n), plain.sheet(r, kind, n));
        int turned = below(k);
        boolean mirrored = below(2) == 0;
        for (int i = 0; i < n; i++) {
            int v;
            if (i % 2 == 0) {
                int letter = ((mirrored ? k - 1 - i / 2 : i / 2) + turned) % k;
                v = careless && below(4) == 0 ? below(k) : letter;
            } else {
                v = below(4) < idle ? -1 : below(careless ? Math.min(states + 1, 8) : states);
            }
            compare("cell", x.cell(r, i, v), plain.cell(r, i, v));
        }
        compare("state", x.state(r, 0), plain.state(r, 0));
    }

    private int row() {
        int k = x.many(0);
        int row = 1;
        int most = below(5) == 0 ? 11 : k == 2 ? 6 : 3;
        int length = below(most + 1);
        for (int i = 0; i < length; i++) {
            row = 4 * row + (below(60) == 0 ? below(4) : below(k));
        }
        return below(60) == 0 ? near(0, 20) : row;
    }

    /** A ROW as long as another one, mostly. */
    private int rowLike(int other) {
        if (below(20) == 0) {
            return row();
        }
        int row = 1;
        for (int rest = other; rest >= 4; rest /= 4) {
            row = 4 * row + below(x.many(0));
        }
        return row;
    }

    private int chosenToken() {
        int states = x.many(1);
        if (below(40) == 0) {
            return near(-9, 9);
        }
        int token = 1 + below(Math.max(states, 1));
        return below(2) == 0 ? token : -token;
    }

    private void compare(String call, int got, int want) {
        calls++;
        String name = call.indexOf('(') < 0 ? call : call.substring(0, call.indexOf('('));
        SEEN.add(got < 0 ? name + " " + got : name);
        Due.due(run + ", call " + calls + ": " + call, got, want);
    }

    private void compareWords() {
        for (int spot = 0; spot < 8; spot++) {
            for (int i = 0; i <= 16; i++) {
                compare("token(" + spot + ", " + i + ")", x.token(spot, i), plain.token(spot, i));
            }
        }
    }

    private void call(String name) {
        int a = spot();
        int b = spot();
        int c = spot();
        switch (name) {
            case "sheet", "cell", "told", "lose", "state", "change", "of", "many", "letters" -> callSheets(name);
            case "put" -> {
                int t1 = chosenToken();
                int t2 = chosenToken();
                int t3 = below(3) == 0 ? 0 : chosenToken();
                int t4 = below(3) == 0 ? 0 : chosenToken();
                compare("put(" + a + ", " + t1 + ", " + t2 + ", " + t3 + ", " + t4 + ")",
                    x.put(a, t1, t2, t3, t4), plain.put(a, t1, t2, t3, t4));
            }
            case "wipe" -> compare(name + "(" + a + ")", x.wipe(a), plain.wipe(a));
            case "size" -> compare(name + "(" + a + ")", x.size(a), plain.size(a));
            case "token" -> compare(name + "(" + a + ", " + b + ")", x.token(a, b), plain.token(a, b));
            case "times" -> compare(name + "(" + a + ", " + b + ", " + c + ")", x.times(a, b, c), plain.times(a, b, c));
            case "turn" -> compare(name + "(" + a + ", " + b + ")", x.turn(a, b), plain.turn(a, b));
            case "act" -> {
                int row = row();
                compare(name + "(" + a + ", " + row + ")", x.act(a, row), plain.act(a, row));
            }
            case "part" -> {
                int row = row();
                compare(name + "(" + a + ", " + row + ", " + b + ")", x.part(a, row, b), plain.part(a, row, b));
            }
            case "same" -> compare(name + "(" + a + ", " + b + ")", x.same(a, b), plain.same(a, b));
            case "apart" -> compare(name + "(" + a + ", " + b + ")", x.apart(a, b), plain.apart(a, b));
            case "heap" -> compare(name + "(" + a + ")", x.heap(a), plain.heap(a));
            case "least" -> compare(name + "(" + a + ")", x.least(a), plain.least(a));
            default -> callLevels(name, a);
        }
    }

    private void callSheets(String name) {
        int r = near(0, 3);
        int i = near(0, 8);
        int v = near(-2, 300);
        int s = near(0, Math.max(x.many(1) - 1, 0));
        int letter = near(0, x.many(0) - 1);
        switch (name) {
            case "sheet" -> {
                int n = near(0, 40);
                int kind = near(0, 2);
                compare(name, x.sheet(r, kind, n), plain.sheet(r, kind, n));
            }
            case "cell" -> compare(name, x.cell(r, i, v), plain.cell(r, i, v));
            case "told" -> compare(name, x.told(r, i), plain.told(r, i));
            case "lose" -> compare(name, x.lose(r), plain.lose(r));
            case "state" -> compare(name, x.state(r, i), plain.state(r, i));
            case "change" -> {
                int y = near(0, x.many(0) - 1);
                int t = below(3) == 0 ? -1 : near(-1, x.many(1) - 1);
                compare(name + "(" + s + ", " + letter + ", " + y + ", " + t + ")",
                    x.change(s, letter, y, t), plain.change(s, letter, y, t));
            }
            case "of" -> {
                int what = near(0, 2);
                compare(name, x.of(s, letter, what), plain.of(s, letter, what));
            }
            case "many" -> {
                int what = near(0, 3);
                compare(name, x.many(what), plain.many(what));
            }
            default -> {
                int k = below(3) == 0 ? 2 + below(3) : v;
                compare(name + "(" + k + ")", x.letters(k), plain.letters(k));
                layMachine();
            }
        }
    }

    private void callLevels(String name, int a) {
        int n = near(0, x.many(0) == 2 ? 8 : x.many(0) == 3 ? 5 : 4);
        int small = near(0, x.many(0) == 2 ? 4 : 2);
        int m = near(0, 5);
        int d = near(1, 2);
        int i = near(0, 9);
        int row = row();
        int to = rowLike(row);
        switch (name) {
            case "order" -> compare(name + "(" + a + ", " + n + ")", x.order(a, n), plain.order(a, n));
            case "orbits" -> compare(name + "(" + n + ")", x.orbits(n), plain.orbits(n));
            case "orbit" -> compare(name + "(" + row + ")", x.orbit(row), plain.orbit(row));
            case "far" -> compare(name + "(" + row + ", " + to + ")", x.far(row, to), plain.far(row, to));
            case "way" -> {
                i = below(4) == 0 ? i : below(Math.max(x.far(row, to), 1));
                compare(name + "(" + row + ", " + to + ", " + i + ")", x.way(row, to, i), plain.way(row, to, i));
            }
            case "reach" -> compare(name + "(" + row + ")", x.reach(row), plain.reach(row));
            case "group" -> compare(name + "(" + small + ")", x.group(small), plain.group(small));
            case "growth" -> compare(name + "(" + m + ")", x.growth(m), plain.growth(m));
            case "laws" -> compare(name + "(" + m + ")", x.laws(m), plain.laws(m));
            case "law" -> compare(name + "(" + m + ", " + i + ", " + a + ")", x.law(m, i, a), plain.law(m, i, a));
            case "fall" -> compare(name + "(" + d + ")", x.fall(d), plain.fall(d));
            default -> compare(name + "(" + d + ", " + i + ", " + a + ")", x.fallen(d, i, a), plain.fallen(d, i, a));
        }
    }
}
