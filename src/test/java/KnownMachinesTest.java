/** Chosen machines, each asked all there is to ask of it, against PlainTower. */
public final class KnownMachinesTest {
    private static final int[][][] MACHINES = {
        {{2}, {1, -1, 0, 0}},
        {{3}, {1, -1, 2, -1, 0, 0}},
        {{2}, {1, -1, 0, -1}, {0, 0, 1, 2}, {0, 0, 1, 3}, {0, -1, 1, 1}},
        {{2}, {1, 1, 0, 0}, {0, 1, 1, 0}},
        {{2}, {1, 0, 1, 0}, {1, -1, 0, -1}},
        {{2}, {0, -1, 1, 1}, {1, -1, 0, 0}},
        {{3}, {1, -1, 2, -1, 0, -1}, {0, 0, 1, -1, 2, 1}},
        {{3}, {1, -1, 0, -1, 2, 0}, {2, -1, 1, 1, 0, -1}, {0, 2, 2, -1, 1, -1}},
        {{3}, {2, 0, 1, 0, 0, 1}, {2, 0, 0, 0, 1, 0}},
        {{2}, {1, 0, 0, 1}, {1, -1, 0, -1}},
        {{4}, {0, 1, 3, 1, 1, 1, 2, 0}, {2, 1, 0, 1, 3, 1, 1, 1}},
        {{3}, {1, 0, 2, 0, 0, 0}, {0, 0, 1, 1, 2, 0}},
        {{2}, {1, 2, 0, 3}, {0, 3, 1, 2}, {0, 3, 1, 3}, {1, 2, 0, 0}},
        {{4}, {0, 0, 0, -1, 3, -1, 2, 0}},
        {{4}, {3, 0, 0, -1, 1, 1, 2, -1}, {1, 1, 0, 0, 3, -1, 2, -1}},
        {{2}, {0, 1, 1, 2}, {0, 2, 1, 3}, {0, 3, 1, 4}, {0, 4, 1, 5}, {0, 5, 1, 6}, {0, 6, 1, 7}, {0, 7, 1, 0},
            {1, -1, 0, 0}},
    };

    private final int[][] machine;
    private final SwitchTower x;
    private final PlainTower plain = new PlainTower();
    private final int k;

    private KnownMachinesTest(int[][] machine) {
        this.machine = machine;
        this.k = machine[0][0];
        int[][] states = java.util.Arrays.copyOfRange(machine, 1, machine.length);
        this.x = Benches.of(k, states);
        plain.letters(k);
        for (int[] state : states) {
            plain.sheet(3, 2, state.length);
            for (int i = 0; i < state.length; i++) {
                plain.cell(3, i, state[i]);
            }
            plain.state(3, 0);
        }
    }

    public static void main(String[] args) {
        for (int[][] machine : MACHINES) {
            KnownMachinesTest test = new KnownMachinesTest(machine);
            test.shortWords();
            test.fallenWords();
            test.levels();
            test.pairsOfRows();
            test.words();
        }
        Due.end();
    }

    private void due(String call, int got, int want) {
        Due.due(java.util.Arrays.deepToString(machine) + ": " + call, got, want);
    }

    private void dueWord(String call) {
        for (int i = 0; i <= 16; i++) {
            due(call + ", token " + i, x.token(0, i), plain.token(0, i));
        }
    }

    private void shortWords() {
        for (int m = 0; m <= 5; m++) {
            due("growth(" + m + ")", x.growth(m), plain.growth(m));
            int laws = plain.laws(m);
            due("laws(" + m + ")", x.laws(m), laws);
            for (int i = 0; i <= Math.min(laws, 40); i++) {
                due("law(" + m + ", " + i + ", 0)", x.law(m, i, 0), plain.law(m, i, 0));
                dueWord("law(" + m + ", " + i + ", 0)");
            }
        }
    }

    private void fallenWords() {
        for (int d = 1; d <= 2; d++) {
            int count = plain.fall(d);
            due("fall(" + d + ")", x.fall(d), count);
            for (int i = 0; i <= Math.max(count, 0); i++) {
                due("fallen(" + d + ", " + i + ", 0)", x.fallen(d, i, 0), plain.fallen(d, i, 0));
                dueWord("fallen(" + d + ", " + i + ", 0)");
            }
        }
    }

    private void levels() {
        for (int n = -1; n <= 9; n++) {
            due("orbits(" + n + ")", x.orbits(n), plain.orbits(n));
            due("group(" + n + ")", x.group(n), plain.group(n));
        }
        for (int row = 0; row < 512; row++) {
            due("orbit(" + row + ")", x.orbit(row), plain.orbit(row));
            due("reach(" + row + ")", x.reach(row), plain.reach(row));
        }
    }

    private void pairsOfRows() {
        for (int from = 0; from < 32; from++) {
            for (int to = 0; to < 32; to++) {
                int far = plain.far(from, to);
                due("far(" + from + ", " + to + ")", x.far(from, to), far);
                for (int i = -1; i <= Math.max(far, 0); i++) {
                    due("way(" + from + ", " + to + ", " + i + ")", x.way(from, to, i), plain.way(from, to, i));
                }
            }
        }
    }

    private void words() {
        int states = x.many(1);
        for (int round = 0; round < 40; round++) {
            int spot = round % 8;
            int a = 1 + round % states;
            int b = -1 - round / 3 % states;
            int c = 1 + round / 5 % states;
            due("put", x.put(spot, a, b, c, a), plain.put(spot, a, b, c, a));
            due("put", x.put(spot, c, c, 0, a), plain.put(spot, c, c, 0, a));
            due("heap", x.heap(spot), plain.heap(spot));
            due("least", x.least(spot), plain.least(spot));
            for (int n = 0; n <= 4; n++) {
                due("order", x.order(spot, n), plain.order(spot, n));
            }
            for (int other = 0; other < 8; other++) {
                due("same", x.same(spot, other), plain.same(spot, other));
                due("apart", x.apart(spot, other), plain.apart(spot, other));
            }
        }
    }
}
