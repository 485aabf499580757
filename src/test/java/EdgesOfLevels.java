/** The edges of promises 23 to 29, and of the terms that they are told in. */
final class EdgesOfLevels extends Edges {
    /** The last LEVEL for k LETTERS, and the last one that has a GROUP. */
    private static final int[] LAST = {0, 0, 8, 5, 4};
    private static final int[] LAST_GROUP = {0, 0, 4, 2, 2};

    private EdgesOfLevels() {
    }

    static void check() {
        levels();
        moves();
        theWay();
        theGroup();
        order();
        orderRefusals();
        orbits();
        orbit();
        far();
        farRefusals();
        way();
        reach();
        group();
        groupRefusals();
    }

    private static Run odometer(int k) {
        return Run.on(() -> Benches.odometer(k)).puts(0, "1");
    }

    private static Run eraser() {
        return Run.on(Benches::eraser).puts(0, "1").puts(1, "2");
    }

    /** A machine that is not WHOLE, and whose STATE 1 has no way back whatever comes. */
    private static Run open() {
        return Run.of(2, new int[] {1, -1, 0, 5}, new int[] {1, -1, 1, -1}).puts(0, "1").puts(1, "2");
    }

    private static int rowOf(int letter, int n) {
        int row = 1;
        for (int i = 0; i < n; i++) {
            row = 4 * row + letter;
        }
        return row;
    }

    // ---- the terms

    private static void levels() {
        Doc.promise(Doc.TERMS);
        Doc.says("LEVEL n (n is 0 or more, K to the power of n at most 256): all ROWS of n LETTERS.");
        for (int k = 2; k <= 4; k++) {
            int rows = 1;
            Run idle = Run.of(k, STILL);
            for (int n = 0; n <= LAST[k]; n++) {
                idle.due(rows, "orbits", n).due(1, "orbit", rowOf(k - 1, n));
                rows *= k;
            }
            idle.refused(NUMBER, "orbits", LAST[k] + 1).refused(NUMBER, "orbit", rowOf(0, LAST[k] + 1))
                .refused(NUMBER, "orbits", -1);
        }
        deepThenShallow();
    }

    /** With 8 STATES, a last LEVEL and then lower ones: what is kept of the one must not spoil the others. */
    private static void deepThenShallow() {
        for (int k = 2; k <= 4; k++) {
            int[][] turns = new int[8][];
            for (int s = 0; s < 8; s++) {
                turns[s] = new int[] {1, s, 0, -1};
            }
            Run x = Run.of(k, turns).due(k - 1, "orbits", 1);
            x.does("orbits", LAST[k]).due(k - 1, "orbits", 1).due(1, "orbits", 0).due(2, "orbit", 4).due(1, "reach", 5);
            odometer(k).does("orbits", LAST[k]).due(k == 2 ? 16 : k * k, "group", LAST_GROUP[k]).due(k, "group", 1);
        }
    }

    private static void moves() {
        Doc.says("A MOVE leads a ROW to what a TOKEN makes of it (any TOKEN that there is).");
        // The eraser has no way back, yet its MOVES count; those of a way back do too.
        eraser().due(1, "far", Look.row("00"), Look.row("11")).due(2, "orbit", Look.row("11"));
        odometer(2).due(1, "far", Look.row("00"), Look.row("11")).due(1, "far", Look.row("11"), Look.row("00"));
        Doc.says("ORBIT of a ROW: all ROWS to which MOVES lead from it, it too.");
        eraser().due(1, "orbit", 1).due(4, "orbit", Look.row("000")).due(2, "orbit", Look.row("111"));
        Run.fresh().due(1, "orbit", Look.row("01010101"));
        Doc.says("DISTANCE from a ROW to another one: the fewest MOVES that lead there.");
        eraser().due(0, "far", 1, 1).due(0, "far", 4, 4).due(2, "far", Look.row("000"), Look.row("011"));
        odometer(2).due(128, "far", rowOf(0, 8), Look.row("00000001"))
            .due(127, "far", rowOf(0, 8), Look.row("11111110"));
    }

    private static void theWay() {
        Doc.says("THE WAY: of the rows of TOKENS of so few MOVES the one with the earlier TOKEN where they are"
            + " first unlike.");
        int from = Look.row("000");
        int to = Look.row("001");
        odometer(2).due(4, "far", from, to).due(1, "way", from, to, 0).due(1, "way", from, to, 3);
        // All four TOKENS do the same: the first one is taken.
        Run.of(2, TURN, TURN).due(1, "far", 4, 5).due(1, "way", 4, 5, 0).due(1, "way", 5, 4, 0);
        // From 0 to 3: 1 leads to 1, 2 to 2, and from both one more MOVE leads there: by 2, or by 1.
        Run two = Run.of(4, new int[] {1, -1, 0, -1, 3, -1, 2, -1}, new int[] {2, -1, 3, -1, 0, -1, 1, -1});
        two.due(2, "far", 4, 7).due(1, "way", 4, 7, 0).due(2, "way", 4, 7, 1);
        // Both -1 and 2 lead from 0 to 2.
        Run three = Run.of(3, new int[] {1, -1, 2, -1, 0, -1}, new int[] {2, -1, 0, -1, 1, -1});
        three.due(1, "far", 4, 6).due(-1, "way", 4, 6, 0).due(1, "way", 4, 5, 0);
    }

    private static void theGroup() {
        Doc.says("THE GROUP of a LEVEL (K to the power of n at most 16): all that rows of TOKENS of BACK STATES"
            + " do to the LEVEL, each counted once. It is SPENT if it has more than 3000.");
        for (int k = 2; k <= 4; k++) {
            int rows = 1;
            Run x = odometer(k);
            for (int n = 0; n <= LAST_GROUP[k]; n++) {
                x.due(rows, "group", n);
                rows *= k;
            }
            x.refused(NUMBER, "group", LAST_GROUP[k] + 1);
        }
        eraser().due(2, "group", 4);
        // With so few ROWS no GROUP has from 2593 to 3071.
        groupOf2592().due(2592, "group", 2);
        groupOf3072().refused(SPENT, "group", 2);
    }

    private static Run groupOf2592() {
        return Run.of(4, new int[] {0, 1, 3, 2, 2, 1, 1, 1}, new int[] {0, 0, 1, 0, 2, 0, 3, 2},
            new int[] {0, 1, 2, 0, 1, 1, 3, 2});
    }

    private static Run groupOf3072() {
        return Run.of(4, new int[] {2, 0, 3, 1, 1, 0, 0, 1}, new int[] {1, 0, 2, 0, 3, 1, 0, 1});
    }

    // ---- the promises

    private static void order() {
        Doc.promise(23);
        Doc.says("The least m above 0 such that the WORD of a SPOT, done m times, leads each ROW of LEVEL n to"
            + " itself.");
        for (int k = 2; k <= 4; k++) {
            Run x = odometer(k).puts(1, "-1");
            x.due(1, "order", 0, 0).due(1, "order", 7, 0).due(1, "order", 7, LAST[k]).due(k, "order", 0, 1);
            int rows = 1;
            for (int n = 0; n < LAST[k]; n++) {
                rows *= k;
            }
            x.due(rows, "order", 0, LAST[k]).due(rows, "order", 1, LAST[k]);
        }
        Run.of(2, STILL).puts(0, "1").due(1, "order", 0, 8);
        // Rings of two and of three rows.
        Run.of(4, new int[] {1, -1, 0, -1, 2, 1, 3, 1}, new int[] {1, -1, 2, -1, 0, -1}).puts(0, "1")
            .due(2, "order", 0, 1).due(6, "order", 0, 2);
        // Only the last ROW of the LEVEL is led elsewhere, and the one ahead of it.
        Run.of(2, new int[] {0, -1, 1, 1}, TURN).puts(0, "1").due(1, "order", 0, 1).due(2, "order", 0, 2);
    }

    private static void orderRefusals() {
        Doc.says("NUMBER: there is no such SPOT, or no LEVEL n");
        for (int k = 2; k <= 4; k++) {
            odometer(k).bounds(NUMBER, 0, 0, 7, "order", 0, 1).bounds(NUMBER, 1, 0, LAST[k], "order", 0, 0);
        }
        eraser().refused(NUMBER, "order", 0, 9).refused(NUMBER, "order", 0, -1).refused(NUMBER, "order", 8, 0);
        Run open = open().refused(NUMBER, "order", 8, 0).refused(NUMBER, "order", 0, 9).refused(NUMBER, "order", 1, -1);
        Doc.says("STATE");
        open.refused(STATE, "order", 0, 0).refused(STATE, "order", 1, 8).refused(STATE, "order", 7, 1);
        Doc.says("KIND: a STATE of one of its TOKENS isn't BACK");
        eraser().refused(KIND, "order", 0, 0).refused(KIND, "order", 0, 8).due(2, "order", 1, 8);
        eraser().puts(2, "2 2 2 1").puts(3, "1 2").refused(KIND, "order", 2, 1).refused(KIND, "order", 3, 1)
            .due(1, "order", 7, 8);
        Doc.says("SPENT: it is above 1,000,000.");
        // No WORD goes so far: on four LETTERS the order at LEVEL 4 divides 12 to the power of 4. Great ones are told.
        Run great = Run.of(4, new int[] {2, 0, 0, -1, 3, 0, 1, 0}, new int[] {2, 1, 3, 0, 1, 1, 0, 0})
            .puts(0, "1 -2 1 1");
        great.due(5184, "order", 0, 4);
    }

    private static void orbits() {
        Doc.promise(24);
        Doc.says("How many ORBITS LEVEL n has, where two ROWS are in one if MOVES of TOKENS of BACK STATES lead"
            + " from the one to the other.");
        Run.fresh().due(1, "orbits", 0).due(256, "orbits", 8);
        odometer(2).due(1, "orbits", 0).due(1, "orbits", 8);
        eraser().due(1, "orbits", 0).due(1, "orbits", 1).due(128, "orbits", 8);
        Run.of(2, new int[] {1, -1, 1, -1}).due(2, "orbits", 1).due(256, "orbits", 8);
        // STATES that change, come and go between two calls are seen.
        Run x = odometer(2).due(1, "orbits", 3).due(8, "orbit", 64).due(8, "group", 3).due(8, "order", 0, 3);
        x.does("change", 0, 1, 0, -1).due(4, "orbits", 3).due(2, "orbit", 64).due(2, "group", 3).due(2, "order", 0, 3);
        x.does("sheet", 0, 0, 4).does("cell", 0, 1, 0).does("cell", 0, 2, 1).does("cell", 0, 3, 0).does("state", 0, 0);
        x.due(2, "orbits", 3).due(4, "orbit", 64).does("letters", 2).due(8, "orbits", 3).due(1, "orbit", 64);
        x.does("letters", 3).due(27, "orbits", 3).due(0, "reach", 64);
        Doc.says("NUMBER: there is no LEVEL n");
        for (int k = 2; k <= 4; k++) {
            odometer(k).bounds(NUMBER, 0, 0, LAST[k], "orbits", 0);
        }
        Run open = open().refused(NUMBER, "orbits", -1).refused(NUMBER, "orbits", 9);
        Doc.says("STATE.");
        open.refused(STATE, "orbits", 0).refused(STATE, "orbits", 8);
    }

    /** NUMBER, whatever else: numbers that tell no ROW, and the shortest ROWS that have no LEVEL. */
    private static void noRows(Run x, int k, String name) {
        for (int row : new int[] {LEAST, -1, 0, 2, 3, 4 + k, 8, 15, GREATEST}) {
            x.refused(NUMBER, name, row);
        }
        x.refused(NUMBER, name, rowOf(0, LAST[k] + 1)).refused(NUMBER, name, rowOf(k - 1, LAST[k] + 1));
        x.refused(NUMBER, name, rowOf(0, 10)).refused(NUMBER, name, rowOf(0, 11));
    }

    private static void refusalsOfRow(String name) {
        Doc.says("NUMBER: there is no such ROW, or its LEVEL is none");
        for (int k = 2; k <= 4; k++) {
            noRows(odometer(k), k, name);
        }
        noRows(open(), 2, name);
        Doc.says("STATE.");
        open().refused(STATE, name, 1).refused(STATE, name, 4).refused(STATE, name, rowOf(1, 8));
    }

    private static void orbit() {
        Doc.promise(25);
        Doc.says("How many ROWS the ORBIT of a ROW has.");
        odometer(2).due(1, "orbit", 1).due(2, "orbit", 5).due(256, "orbit", rowOf(1, 8));
        odometer(3).due(243, "orbit", rowOf(2, 5));
        odometer(4).due(256, "orbit", rowOf(3, 4));
        Run.fresh().due(1, "orbit", rowOf(1, 8)).due(1, "orbit", 1);
        refusalsOfRow("orbit");
    }

    private static void far() {
        Doc.promise(26);
        Doc.says("DISTANCE from a ROW to another one of its LEVEL.");
        odometer(2).due(0, "far", 1, 1).due(0, "far", 4, 4).due(1, "far", 4, 5).due(0, "far", rowOf(1, 8), rowOf(1, 8));
        odometer(2).due(1, "far", rowOf(1, 8), rowOf(0, 8)).due(128, "far", rowOf(1, 8), Look.row("11111110"));
        odometer(3).due(121, "far", rowOf(0, 5), Look.row("11111")).due(121, "far", rowOf(0, 5), Look.row("21111"));
        odometer(4).due(128, "far", rowOf(0, 4), Look.row("0002"));
    }

    private static void farRefusals() {
        Doc.says("NUMBER: there is no such ROW, its LEVEL is none, or the other one isn't of that");
        for (int k = 2; k <= 4; k++) {
            Run x = odometer(k);
            for (int row : new int[] {LEAST, -1, 0, 2, 3, 4 + k, 8, GREATEST}) {
                x.refused(NUMBER, "far", row, 4).refused(NUMBER, "far", 4, row).refused(NUMBER, "far", row, row);
            }
            int deep = rowOf(0, LAST[k] + 1);
            x.refused(NUMBER, "far", deep, deep).refused(NUMBER, "far", rowOf(0, 10), rowOf(0, 10));
            x.refused(NUMBER, "far", rowOf(0, LAST[k]), deep).refused(NUMBER, "far", deep, rowOf(0, LAST[k]));
            x.refused(NUMBER, "far", 1, 4).refused(NUMBER, "far", 4, 1).refused(NUMBER, "far", 4, 16)
                .refused(NUMBER, "far", 16, 4);
        }
        eraser().refused(NUMBER, "far", Look.row("11"), Look.row("000"))
            .refused(NUMBER, "far", Look.row("11"), Look.row("02"));
        open().refused(NUMBER, "far", 0, 4).refused(NUMBER, "far", 4, 16)
            .refused(NUMBER, "far", rowOf(0, 9), rowOf(0, 9));
        Doc.says("STATE");
        open().refused(STATE, "far", 1, 1).refused(STATE, "far", 5, 4).refused(STATE, "far", rowOf(0, 8), rowOf(1, 8));
        Doc.says("NEVER.");
        eraser().refused(NEVER, "far", Look.row("11"), Look.row("00")).refused(NEVER, "far", rowOf(1, 8), rowOf(0, 8));
        Run.fresh().refused(NEVER, "far", 4, 5).due(0, "far", 4, 4);
    }

    private static void way() {
        Doc.promise(27);
        Doc.says("TOKEN i of THE WAY from a ROW to another one;");
        int from = Look.row("000");
        int to = Look.row("011");
        eraser().due(2, "far", from, to).due(1, "way", from, to, 0).due(2, "way", from, to, 1);
        int end = Look.row("00000001");
        odometer(2).due(1, "way", rowOf(0, 8), end, 0).due(1, "way", rowOf(0, 8), end, 127)
            .due(-1, "way", rowOf(0, 8), rowOf(1, 8), 0);
        // STATE 0 leads the first letter round; STATE 1 leads on by 0 behind a 0, and by itself behind a 2.
        int[] mixed = {-2, -1, 2, 1, 2, -1, 2, 1, 2, 1};
        Run x = Run.of(3, new int[] {1, -1, 2, -1, 0, -1}, new int[] {0, 0, 1, -1, 2, 1});
        x.due(mixed.length, "far", Look.row("0000"), Look.row("1111"));
        for (int i = 0; i < mixed.length; i++) {
            x.due(mixed[i], "way", Look.row("0000"), Look.row("1111"), i);
        }
        Doc.says("0 if there is none such (or far() is refused).");
        eraser().bounds(0, 2, 0, 1, "way", from, to, 0);
        odometer(2).bounds(0, 2, 0, 127, "way", rowOf(0, 8), end, 0);
        eraser().refused(0, "way", from, from, 0).refused(0, "way", 1, 1, 0).refused(0, "way", from, from, -1);
        for (int i : new int[] {LEAST, -8, -1, 0, 1, GREATEST}) {
            eraser().refused(0, "way", Look.row("111"), Look.row("000"), i);
            eraser().refused(0, "way", 0, 4, i).refused(0, "way", 4, 0, i).refused(0, "way", from, 4, i);
            eraser().refused(0, "way", rowOf(0, 9), rowOf(0, 9), i).refused(0, "way", LEAST, GREATEST, i);
            open().refused(0, "way", 4, 5, i).refused(0, "way", 0, 5, i);
        }
    }

    private static void reach() {
        Doc.promise(28);
        Doc.says("The greatest DISTANCE from a ROW to one of its ORBIT.");
        odometer(2).due(0, "reach", 1).due(1, "reach", 4).due(128, "reach", rowOf(0, 8)).due(128, "reach", rowOf(1, 8));
        odometer(3).due(121, "reach", rowOf(2, 5));
        odometer(4).due(128, "reach", rowOf(3, 4));
        eraser().due(2, "reach", Look.row("000")).due(1, "reach", Look.row("111"));
        Run.fresh().due(0, "reach", rowOf(1, 8));
        refusalsOfRow("reach");
    }

    private static void group() {
        Doc.promise(29);
        Doc.says("How many are in THE GROUP of LEVEL n.");
        Run.fresh().due(1, "group", 0).due(1, "group", 4);
        eraser().due(1, "group", 0).due(2, "group", 1).due(2, "group", 4);
        Run.of(2, new int[] {1, -1, 1, -1}).due(1, "group", 4);
        Run.of(4, new int[] {1, -1, 2, -1, 3, -1, 0, -1}, TURN).due(24, "group", 1).due(24, "group", 2)
            .due(1, "group", 0);
        Run.of(2, new int[] {0, 1, 1, 1}, new int[] {1, -1, 0, 0}, new int[] {0, 2, 1, 1}).due(2048, "group", 4);
        // Each of eight STATES brings in what those ahead of it do not: two turns behind 0, 1 and 2, and at first.
        int[][] eight = new int[8][];
        for (int s = 0; s < 6; s++) {
            eight[s] = new int[] {0, -1, 1, -1, 2, -1, 3, -1};
            eight[s][2 * (s / 2) + 1] = 6 + s % 2;
        }
        eight[6] = TURN;
        eight[7] = new int[] {0, -1, 1, -1, 3, -1, 2, -1};
        Run.of(4, eight).due(1024, "group", 2).due(4, "group", 1);
    }

    private static void groupRefusals() {
        Doc.says("NUMBER: n is below 0, or K to the power of n above 16");
        for (int k = 2; k <= 4; k++) {
            odometer(k).bounds(NUMBER, 0, 0, LAST_GROUP[k], "group", 0);
        }
        open().refused(NUMBER, "group", -1).refused(NUMBER, "group", 5);
        groupOf3072().refused(NUMBER, "group", 3).refused(NUMBER, "group", -1);
        Doc.says("STATE");
        open().refused(STATE, "group", 0).refused(STATE, "group", 4);
        groupOf3072().does("sheet", 0, 0, 2).does("cell", 0, 1, 7).does("state", 0, 0).refused(STATE, "group", 2);
        Doc.says("SPENT.");
        groupOf3072().refused(SPENT, "group", 2).due(1, "group", 0);
        Run.on(Benches::grigorchuk).due(128, "group", 3).refused(SPENT, "group", 4).due(8, "group", 2);
        groupOf2592().does("orbits", 4).due(2592, "group", 2);
    }
}
