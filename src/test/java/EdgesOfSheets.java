/** The edges of promises 1 to 10, and of the terms that they are told in. */
final class EdgesOfSheets extends Edges {
    private EdgesOfSheets() {
    }

    static void check() {
        lettersAndStates();
        wholeMachines();
        kindsOfSheets();
        rows();
        acts();
        backStates();
        refusals();
        newObject();
        sheet();
        cell();
        told();
        lose();
        letters();
        stateThatComes();
        statePairs();
        stateRefusals();
        change();
        changeEmptiesWords();
        of();
        many();
    }

    // ---- the terms

    private static void lettersAndStates() {
        Doc.promise(Doc.TERMS);
        Doc.says("LETTERS are 0 to K - 1, K is 2 to 4.");
        Run.fresh().bounds(NUMBER, 0, 2, 4, "letters", 3);
        for (int k = 2; k <= 4; k++) {
            Run x = Run.of(k, STILL).does("put", 0, 1, 0, 0, 0);
            x.due(k, "many", 0);
            x.bounds(NUMBER, 1, 0, k - 1, "change", 0, 0, 0, -1);
            x.bounds(NUMBER, 2, 0, k - 1, "change", 0, 0, 0, -1);
            x.bounds(-2, 1, 0, k - 1, "of", 0, 0, 0);
            x.due(4 + k - 1, "act", 0, 4 + k - 1).refused(NUMBER, "act", 0, 4 + k);
        }
        Doc.says("STATES are 0 to 7, as they come;");
        Run x = Run.fresh().does("sheet", 0, 0, 0).due(0, "many", 1).due(-2, "of", 0, 0, 0);
        for (int s = 0; s < 8; s++) {
            x.due(s, "state", 0, 0).due(s + 1, "many", 1).due(0, "of", s, 0, 0).due(-2, "of", s + 1, 0, 0);
        }
        x.refused(FULL, "state", 0, 0);
        Doc.says("each has for each LETTER one that it WRITES, and where it GOES: a STATE's number (0 to 7,"
            + " whether that is there yet or not), or IDLE (-1).");
        Run one = Run.of(4, new int[] {3, 0, 2, 7, 1, 1, 0, -1});
        int[] goals = {0, 7, 1, -1};
        for (int letter = 0; letter < 4; letter++) {
            one.due(3 - letter, "of", 0, letter, 0).due(goals[letter], "of", 0, letter, 1);
        }
        one.bounds(NUMBER, 3, -1, 7, "change", 0, 2, 0, 0);
    }

    private static void wholeMachines() {
        Doc.says("The machine is WHOLE if all STATES to which some GO are there.");
        Run.fresh().due(1, "many", 2);
        Run.of(2, STILL).due(1, "many", 2);
        Run.of(2, new int[] {0, 0, 1, 0}).due(1, "many", 2);
        Run.of(2, new int[] {0, -1, 1, 1}).due(0, "many", 2).does("sheet", 0, 0, 0).does("state", 0, 0)
            .due(1, "many", 2);
        Run.of(4, new int[] {0, -1, 1, -1, 2, -1, 3, 1}).due(0, "many", 2).due(1, "change", 0, 3, 3, 0)
            .due(1, "many", 2);
        Run seven = Run.of(2, TURN, TURN, TURN, TURN, TURN, TURN, new int[] {0, -1, 1, 7}).due(0, "many", 2);
        seven.does("sheet", 0, 0, 0).does("state", 0, 0).due(1, "many", 2);
        eight(2, TURN).due(1, "change", 7, 0, 0, 0).due(1, "many", 2).due(1, "change", 0, 0, 0, 7).due(1, "many", 2);
    }

    private static void kindsOfSheets() {
        Doc.says("SHEETS are 0 to 3: rows of bytes (kind 0), shorts (1) or ints (2), each there or MISSING.");
        for (int r = 0; r < 4; r++) {
            for (int kind = 0; kind < 3; kind++) {
                int[] cast = {0x78, 0x5678, 0x12345678};
                Run x = Run.fresh().refused(MISSING, "lose", r).due(1, "sheet", r, kind, 1);
                x.due(1, "cell", r, 0, 0x12345678).due(cast[kind], "told", r, 0);
                for (int other = 0; other < 4; other++) {
                    x.due(other == r ? 1 : MISSING, "lose", other);
                }
            }
        }
        Run.fresh().bounds(NUMBER, 0, 0, 3, "sheet", 0, 0, 1);
    }

    private static void rows() {
        Doc.says("ROWS of LETTERS are told as numbers: the empty one is 1; with a LETTER x behind it a ROW r is 4"
            + " r + x.");
        Run x = Run.of(3, new int[] {1, -1, 2, -1, 0, -1}).does("put", 0, 1, 0, 0, 0);
        x.due(1, "act", 0, 1).due(5, "act", 0, 4).due(6, "act", 0, 5).due(4, "act", 0, 6)
            .due(4 * 5 + 2, "act", 0, 4 * 4 + 2);
        for (int none : new int[] {LEAST, -4, -1, 0, 2, 3, 7, 8, 12, 15, 19, 28, 32, 63, 1 << 21, 1 << 30, GREATEST}) {
            x.refused(NUMBER, "act", 0, none);
        }
        Doc.says("A ROW has at most 10 LETTERS here.");
        for (int k = 2; k <= 4; k++) {
            Run idle = Run.of(k, STILL);
            int low = Look.row("0000000000");
            int high = 1;
            for (int i = 0; i < 10; i++) {
                high = 4 * high + k - 1;
            }
            idle.due(low, "act", 0, low).due(high, "act", 0, high);
            idle.refused(NUMBER, "act", 0, 4 * low).refused(NUMBER, "act", 0, 4 * high + k - 1);
            idle.refused(NUMBER, "act", 0, low - 1).refused(NUMBER, "act", 0, high + 1);
        }
    }

    private static void acts() {
        Doc.says("A STATE's ACT on a ROW: the first LETTER x becomes what it WRITES for x, and what is behind"
            + " that is rewritten by the ACT of where it GOES for x; IDLE changes nothing.");
        // STATE 0 turns a 0 and stops, and turns a 1 and goes on by STATE 1, which makes one letter 0.
        Run x = Run.of(2, new int[] {1, -1, 0, 1}, ERASE).does("put", 0, 1, 0, 0, 0);
        String[][] rows = {{"", ""}, {"0", "1"}, {"1", "0"}, {"01", "11"}, {"11", "00"}, {"0111111111", "1111111111"},
            {"1111111111", "0011111111"}, {"1011111111", "0011111111"}};
        for (String[] row : rows) {
            x.due(Look.row(row[1]), "act", 0, Look.row(row[0]));
        }
        Run all = Run.on(() -> Benches.odometer(2)).does("put", 0, 1, 0, 0, 0);
        all.due(Look.row("0000000000"), "act", 0, Look.row("1111111111"));
        all.due(Look.row("0000000001"), "act", 0, Look.row("1111111110"));
    }

    private static void backStates() {
        Doc.says("A STATE is BACK if it, and each STATE to which one comes from it, is there and WRITES for"
            + " unlike LETTERS unlike ones; then its ACT has a way back.");
        // Each STATE goes to the next one, the last one to the first: one that is not BACK takes all of them.
        int[][] ring = new int[8][];
        for (int s = 0; s < 8; s++) {
            ring[s] = new int[] {1, -1, 0, (s + 1) % 8};
        }
        Run whole = Run.of(2, ring).due(16, "many", 3);
        Run broken = whole.again().does("change", 7, 0, 0, -1).due(8, "many", 3);
        Run open = Run.of(2, java.util.Arrays.copyOf(ring, 7)).due(7, "many", 3);
        for (int s = 0; s < 8; s++) {
            whole.due(1, "of", s, 0, 2);
            broken.due(0, "of", s, 0, 2);
        }
        for (int s = 0; s < 7; s++) {
            open.due(0, "of", s, 0, 2);
        }
        // A chain whose last STATE erases: those ahead of it are not BACK, the one that stands for itself is.
        Run chain = Run.of(2, ERASE, new int[] {0, 0, 1, -1}, new int[] {1, -1, 0, 1}, TURN);
        chain.due(0, "of", 0, 0, 2).due(0, "of", 1, 0, 2).due(0, "of", 2, 0, 2).due(1, "of", 3, 0, 2).due(5, "many", 3);
        // Of four letters only the first and the last one are written alike.
        Run.of(4, new int[] {3, -1, 1, -1, 2, -1, 3, -1}).due(0, "of", 0, 0, 2);
        Run.of(4, new int[] {3, -1, 1, -1, 2, -1, 0, -1}).due(1, "of", 0, 0, 2);
        Run.of(2, new int[] {1, 0, 0, 0}).due(1, "of", 0, 0, 2);
        Run back = Run.of(3, new int[] {1, -1, 2, -1, 0, 0}).does("put", 0, -1, 0, 0, 0);
        back.due(Look.row("22"), "act", 0, Look.row("00")).due(Look.row("00"), "act", 0, Look.row("10"));
    }

    private static void refusals() {
        Doc.says("A call that is refused (answers below 0, where not told otherwise) changes nothing.");
        Run x = Run.on(Benches::grigorchuk).does("sheet", 1, 1, 3).does("cell", 1, 2, 300).does("put", 0, 1, 2, 3, 4);
        x.refused(NUMBER, "sheet", 1, 0, 41).refused(SIZE, "sheet", 1, 0, -1).refused(NUMBER, "cell", 1, 3, 7);
        x.refused(MISSING, "cell", 0, 0, 7).refused(NUMBER, "letters", 5).refused(NUMBER, "state", 1, 1);
        x.refused(NUMBER, "change", 0, 0, 0, 8).refused(NUMBER, "put", 0, 1, 2, 3, 5).refused(NUMBER, "wipe", 8);
        x.refused(NUMBER, "times", 0, 0, 8).refused(NUMBER, "turn", 8, 0).refused(NUMBER, "part", 0, 0, 1);
        x.refused(NEVER, "law", 2, 8, 0).refused(NEVER, "fallen", 1, 9, 0);
        Doc.says("Of several refusals that a call names the first one named is answered.");
        x.refused(NUMBER, "sheet", 4, 0, -1).refused(MISSING, "cell", 0, -1, 7).refused(NUMBER, "state", 0, -1);
        x.refused(NUMBER, "law", 3, -1, 8).refused(SPENT, "law", 3, -1, 0);
    }

    // ---- the promises

    private static void newObject() {
        Doc.promise(1);
        Doc.says("Two LETTERS, no STATES, SHEETS are MISSING, empty WORDS.");
        Run x = Run.fresh().due(2, "many", 0).due(0, "many", 1).due(1, "many", 2).due(0, "many", 3);
        x.due(5, "act", 0, 5).due(NUMBER, "act", 0, 6).due(-2, "of", 0, 0, 2);
        for (int r = 0; r < 4; r++) {
            x.due(LEAST, "told", r, 0).due(MISSING, "cell", r, 0, 1).due(MISSING, "lose", r)
                .due(MISSING, "state", r, 0);
        }
        for (int spot = 0; spot < 8; spot++) {
            x.due(0, "size", spot).due(0, "token", spot, 0).due(0, "wipe", spot);
        }
        Run.fresh().due(0, "put", 0, 0, 0, 0, 0).due(1, "order", 0, 8).due(256, "orbits", 8).due(1, "orbit", 4);
        Run.fresh().due(0, "reach", 1).due(1, "group", 4).due(1, "growth", 5).due(0, "laws", 5).due(1, "fall", 2);
    }

    private static void sheet() {
        Doc.promise(2);
        Doc.says("SHEET r is there, of that kind, with n numbers, all 0: 1.");
        Run x = Run.fresh().due(1, "sheet", 2, 2, 40).due(0, "told", 2, 0).due(0, "told", 2, 39)
            .due(LEAST, "told", 2, 40);
        x.due(1, "cell", 2, 0, 300).due(1, "cell", 2, 39, 300);
        x.due(1, "sheet", 2, 0, 40).due(0, "told", 2, 0).due(0, "told", 2, 39).due(1, "cell", 2, 0, 300)
            .due(44, "told", 2, 0);
        x.due(1, "sheet", 2, 1, 1).due(0, "told", 2, 0).due(LEAST, "told", 2, 1);
        Run.fresh().due(1, "sheet", 0, 0, 0).due(LEAST, "told", 0, 0).due(NUMBER, "cell", 0, 0, 0).due(1, "lose", 0);
        Doc.says("NUMBER: r isn't 0 to 3, or kind not 0 to 2");
        Run laid = Run.fresh().does("sheet", 1, 1, 2).does("cell", 1, 1, 9);
        laid.bounds(NUMBER, 0, 0, 3, "sheet", 1, 0, 5).bounds(NUMBER, 1, 0, 2, "sheet", 1, 0, 5);
        laid.refused(NUMBER, "sheet", 4, 0, -1).refused(NUMBER, "sheet", 1, 3, -1)
            .refused(NUMBER, "sheet", -1, -1, LEAST);
        Doc.says("SIZE: n is below 0");
        laid.refused(SIZE, "sheet", 1, 0, -1).refused(SIZE, "sheet", 1, 0, LEAST).refused(SIZE, "sheet", 0, 2, -1);
        laid.again().due(1, "sheet", 1, 0, 0);
        Doc.says("NUMBER: n is above 40");
        laid.refused(NUMBER, "sheet", 1, 0, 41).refused(NUMBER, "sheet", 1, 0, GREATEST)
            .refused(NUMBER, "sheet", 0, 2, 41);
        laid.again().due(1, "sheet", 1, 0, 40);
    }

    private static void cell() {
        Doc.promise(3);
        Doc.says("Number i of a SHEET becomes v, as its kind casts it: 1.");
        int[][] bytes = {{127, 127}, {128, -128}, {255, -1}, {256, 0}, {-128, -128}, {-129, 127}, {65535, -1},
            {LEAST, 0}, {GREATEST, -1}, {0, 0}, {-1, -1}};
        int[][] shorts = {{32767, 32767}, {32768, -32768}, {65535, -1}, {65536, 0}, {-32768, -32768}, {-32769, 32767},
            {128, 128}, {LEAST, 0}, {GREATEST, -1}, {0, 0}, {-1, -1}};
        int[][] ints = {{GREATEST, GREATEST}, {LEAST, LEAST}, {128, 128}, {32768, 32768}, {-32769, -32769}, {0, 0},
            {-1, -1}};
        int[][][] casts = {bytes, shorts, ints};
        for (int kind = 0; kind < 3; kind++) {
            Run x = Run.fresh().does("sheet", kind, kind, 40);
            for (int[] cast : casts[kind]) {
                x.due(1, "cell", kind, 0, cast[0]).due(cast[1], "told", kind, 0);
                x.due(1, "cell", kind, 39, cast[0]).due(cast[1], "told", kind, 39).due(0, "told", kind, 38);
            }
        }
        Doc.says("NUMBER: r isn't 0 to 3");
        Run all = Run.fresh().does("sheet", 0, 2, 3).does("sheet", 1, 2, 3).does("sheet", 2, 2, 3)
            .does("sheet", 3, 2, 3);
        all.bounds(NUMBER, 0, 0, 3, "cell", 0, 0, 5);
        Doc.says("MISSING");
        Run one = Run.fresh().does("sheet", 1, 2, 3);
        one.refused(MISSING, "cell", 0, 0, 5).refused(MISSING, "cell", 0, -1, 5)
            .refused(MISSING, "cell", 3, GREATEST, 5);
        one.again().does("lose", 1).refused(MISSING, "cell", 1, 0, 5);
        Doc.says("NUMBER: it has no number i");
        one.bounds(NUMBER, 1, 0, 2, "cell", 1, 0, 5);
        Run.fresh().does("sheet", 1, 2, 40).bounds(NUMBER, 1, 0, 39, "cell", 1, 0, 5);
        Run.fresh().does("sheet", 1, 2, 0).refused(NUMBER, "cell", 1, 0, 5).refused(NUMBER, "cell", 1, -1, 5);
        Run.fresh().does("sheet", 1, 2, 9).does("sheet", 1, 2, 3).refused(NUMBER, "cell", 1, 3, 5);
    }

    private static void told() {
        Doc.promise(4);
        Doc.says("Number i of a SHEET;");
        Run x = Run.fresh().does("sheet", 0, 2, 3).does("cell", 0, 0, 7).does("cell", 0, 2, LEAST)
            .does("sheet", 3, 0, 40);
        x.due(7, "told", 0, 0).due(0, "told", 0, 1).due(LEAST, "told", 0, 2).due(0, "told", 3, 39);
        Doc.says("-2^31 if r isn't 0 to 3, it is MISSING, or has none such.");
        x.does("cell", 0, 2, 8).does("cell", 3, 0, 5);
        x.bounds(LEAST, 1, 0, 2, "told", 0, 0).bounds(LEAST, 1, 0, 39, "told", 3, 0);
        x.refused(LEAST, "told", -1, 0).refused(LEAST, "told", 4, 0);
        x.refused(LEAST, "told", LEAST, 0).refused(LEAST, "told", GREATEST, 0);
        x.refused(LEAST, "told", 1, 0).refused(LEAST, "told", 2, 0);
        x.again().does("lose", 0).refused(LEAST, "told", 0, 0);
        x.again().does("sheet", 0, 2, 0).refused(LEAST, "told", 0, 0);
        x.again().does("sheet", 0, 2, 1).refused(LEAST, "told", 0, 1);
    }

    private static void lose() {
        Doc.promise(5);
        Doc.says("SHEET r becomes MISSING: 1.");
        for (int r = 0; r < 4; r++) {
            Run x = Run.fresh().does("sheet", r, 2, 1).does("cell", r, 0, 9).due(1, "lose", r).due(LEAST, "told", r, 0);
            x.due(MISSING, "state", r, 0).due(1, "sheet", r, 2, 1).due(0, "told", r, 0);
        }
        Run.fresh().does("sheet", 0, 0, 0).due(1, "lose", 0);
        Doc.says("NUMBER: r isn't 0 to 3");
        Run all = Run.fresh().does("sheet", 0, 2, 3).does("sheet", 1, 2, 3).does("sheet", 2, 2, 3)
            .does("sheet", 3, 2, 3);
        all.bounds(NUMBER, 0, 0, 3, "lose", 0);
        Doc.says("MISSING: it is.");
        Run.fresh().refused(MISSING, "lose", 0).refused(MISSING, "lose", 3);
        all.again().does("lose", 2).refused(MISSING, "lose", 2).due(1, "lose", 1).due(1, "lose", 3);
    }

    private static void letters() {
        Doc.promise(6);
        Doc.says("There are k LETTERS; all STATES are gone, all WORDS are empty: 1.");
        for (int k = 2; k <= 4; k++) {
            Run x = Run.of(2, TURN, ERASE).does("sheet", 1, 2, 1).does("cell", 1, 0, 300);
            for (int spot = 0; spot < 8; spot++) {
                x.does("put", spot, 1, 2, -1, 0);
            }
            x.due(1, "letters", k).due(k, "many", 0).due(0, "many", 1).due(1, "many", 2).due(0, "many", 3);
            x.due(-2, "of", 0, 0, 2).due(300, "told", 1, 0).due(MISSING, "lose", 0);
            for (int spot = 0; spot < 8; spot++) {
                x.due(0, "size", spot).due(0, "token", spot, 0);
            }
            x.due(NUMBER, "put", 0, 1, 0, 0, 0).does("sheet", 1, 2, 0).due(0, "state", 1, 0).due(2, "many", 3);
        }
        eight(2, TURN).due(1, "letters", 2).does("sheet", 0, 0, 0).due(0, "state", 0, 0);
        Doc.says("NUMBER: k isn't 2 to 4.");
        Run x = Run.of(3, STILL, STILL).does("put", 7, 2, 0, 0, 0).bounds(NUMBER, 0, 2, 4, "letters", 3);
        x.refused(NUMBER, "letters", 0).refused(NUMBER, "letters", -2);
    }

    private static void stateThatComes() {
        Doc.promise(7);
        Doc.says("A STATE comes: its number.");
        Run x = Run.fresh().does("sheet", 0, 0, 0);
        for (int s = 0; s < 8; s++) {
            x.due(s, "state", 0, 0);
        }
        Doc.says("For LETTER x it WRITES number i + 2 x of SHEET r and GOES to number i + 2 x + 1 of it;");
        Run full = Run.fresh().does("letters", 4).does("sheet", 3, 1, 40);
        int[] pairs = {3, 7, 0, -1, 2, 0, 1, 5};
        for (int i = 0; i < 8; i++) {
            full.does("cell", 3, 32 + i, pairs[i]);
        }
        full.due(0, "state", 3, 32);
        for (int letter = 0; letter < 4; letter++) {
            full.due(pairs[2 * letter], "of", 0, letter, 0).due(pairs[2 * letter + 1], "of", 0, letter, 1);
        }
        // What stands beside its own numbers is none of its business.
        Run beside = Run.fresh().does("sheet", 0, 2, 8).does("cell", 0, 1, 99).does("cell", 0, 6, 99)
            .does("cell", 0, 7, 99);
        beside.due(0, "state", 0, 2).refused(NUMBER, "state", 0, 1).refused(NUMBER, "state", 0, 3);
        Run cast = Run.fresh().does("sheet", 0, 0, 4).does("cell", 0, 0, 257).does("cell", 0, 1, 255)
            .does("cell", 0, 3, -249);
        cast.due(0, "state", 0, 0).due(1, "of", 0, 0, 0).due(-1, "of", 0, 0, 1).due(7, "of", 0, 1, 1);
    }

    private static void statePairs() {
        Doc.says("for LETTERS for which the SHEET has not both it WRITES x and GOES to IDLE.");
        for (int k = 2; k <= 4; k++) {
            for (int n = 0; n <= 2 * k; n++) {
                Run x = Run.fresh().does("letters", k).does("sheet", 1, 2, n);
                for (int i = 0; i < n; i++) {
                    x.does("cell", 1, i, i % 2 == 0 ? k - 1 - i / 2 : 7);
                }
                // The first number of a pair that is not whole is not looked at, so that it may be anything.
                x.does("cell", 1, n % 2 == 1 ? n - 1 : -1, 99).due(0, "state", 1, 0);
                for (int letter = 0; letter < k; letter++) {
                    boolean both = 2 * letter + 1 < n;
                    x.due(both ? k - 1 - letter : letter, "of", 0, letter, 0).due(both ? 7 : -1, "of", 0, letter, 1);
                }
            }
        }
        Run wrong = Run.fresh().does("sheet", 0, 2, 40);
        for (int i = 0; i < 40; i++) {
            wrong.does("cell", 0, i, 99);
        }
        int[] beyond = {39, 40, 41, GREATEST - 4, GREATEST - 3, GREATEST - 2, GREATEST - 1, GREATEST};
        for (int i = 0; i < beyond.length; i++) {
            wrong.due(i, "state", 0, beyond[i]);
            for (int letter = 0; letter < 2; letter++) {
                wrong.due(letter, "of", i, letter, 0).due(-1, "of", i, letter, 1);
            }
        }
        Run.fresh().does("sheet", 0, 2, 40).does("cell", 0, 38, 99).refused(NUMBER, "state", 0, 38);
    }

    private static void stateRefusals() {
        Doc.says("NUMBER: r isn't 0 to 3, or i is below 0");
        Run all = Run.fresh().does("sheet", 0, 0, 4).does("sheet", 1, 0, 4).does("sheet", 2, 0, 4)
            .does("sheet", 3, 0, 4);
        all.bounds(NUMBER, 0, 0, 3, "state", 0, 0);
        all.refused(NUMBER, "state", 0, -1).refused(NUMBER, "state", 0, LEAST).again().due(0, "state", 0, 0);
        Run.fresh().refused(NUMBER, "state", 0, -1);
        Run full = eight(2, TURN).does("sheet", 0, 2, 4);
        full.refused(NUMBER, "state", 4, 0).refused(NUMBER, "state", 0, -1).refused(NUMBER, "state", 1, -1);
        Doc.says("MISSING");
        Run.fresh().refused(MISSING, "state", 0, 0).refused(MISSING, "state", 3, GREATEST);
        full.refused(MISSING, "state", 1, 0);
        Run.fresh().does("sheet", 0, 2, 4).does("cell", 0, 0, 9).does("lose", 0).refused(MISSING, "state", 0, 0);
        Doc.says("NUMBER: one that it would WRITE is no LETTER, or one to which it would GO isn't -1 to 7");
        for (int k = 2; k <= 4; k++) {
            for (int i = 0; i < 2 * k; i++) {
                Run x = Run.fresh().does("letters", k).does("sheet", 0, 2, 2 * k);
                int low = i % 2 == 0 ? 0 : -1;
                int high = i % 2 == 0 ? k - 1 : 7;
                x.again().does("cell", 0, i, low).due(0, "state", 0, 0);
                x.again().does("cell", 0, i, high).due(0, "state", 0, 0);
                for (int number : new int[] {low - 1, high + 1, LEAST, GREATEST}) {
                    x.again().does("cell", 0, i, number).refused(NUMBER, "state", 0, 0);
                }
            }
        }
        full.again().does("cell", 0, 0, 2).refused(NUMBER, "state", 0, 0);
        full.again().does("cell", 0, 3, 8).refused(NUMBER, "state", 0, 0);
        Doc.says("FULL: there are 8.");
        full.refused(FULL, "state", 0, 0).refused(FULL, "state", 0, GREATEST);
        Run seven = Run.of(2, TURN, TURN, TURN, TURN, TURN, TURN, TURN).does("sheet", 0, 0, 0);
        seven.due(7, "state", 0, 0).refused(FULL, "state", 0, 0).does("letters", 2).due(0, "state", 0, 0);
    }

    private static void change() {
        Doc.promise(8);
        Doc.says("A STATE WRITES y for LETTER x, and GOES to t: 1.");
        Run x = eight(4, STILL);
        x.due(1, "change", 7, 3, 0, 7).due(0, "of", 7, 3, 0).due(7, "of", 7, 3, 1);
        x.due(1, "change", 0, 0, 3, -1).due(3, "of", 0, 0, 0).due(-1, "of", 0, 0, 1);
        x.due(1, "change", 7, 3, 3, -1).due(3, "of", 7, 3, 0).due(-1, "of", 7, 3, 1);
        x.due(2, "of", 7, 2, 0).due(-1, "of", 7, 2, 1).due(3, "of", 6, 3, 0).due(1, "of", 0, 1, 0);
        Doc.says("NUMBER: there is no such STATE, x or y is no LETTER, or t isn't -1 to 7.");
        for (int k = 2; k <= 4; k++) {
            Run some = Run.of(k, STILL, STILL, STILL).does("put", 0, -1, -2, -3, 0);
            some.bounds(NUMBER, 0, 0, 2, "change", 0, 0, 0, -1);
            some.bounds(NUMBER, 1, 0, k - 1, "change", 2, 0, 0, -1);
            some.bounds(NUMBER, 2, 0, k - 1, "change", 2, 0, 0, -1);
            some.bounds(NUMBER, 3, -1, 7, "change", 2, 0, 0, -1);
        }
        eight(2, TURN).bounds(NUMBER, 0, 0, 7, "change", 0, 0, 1, -1);
        Run.fresh().refused(NUMBER, "change", 0, 0, 0, -1);
        Run.of(4, STILL).does("letters", 2).refused(NUMBER, "change", 0, 0, 0, -1);
    }

    private static void changeEmptiesWords() {
        Doc.says("All WORDS that have a TOKEN of a way back of a STATE that is not BACK then become empty.");
        // STATE 0 goes to 1; 2 stands for itself.
        Run x = Run.of(2, new int[] {0, 1, 1, -1}, TURN, TURN);
        x.puts(0, "-1").puts(1, "-2").puts(2, "-3").puts(3, "1 2 3").puts(4, "3 3 3 3 3 3 3 3 3 3 3 3 3 3 3 -2");
        x.puts(5, "-1 3 3 3 3 3 3 3 3 3 3 3 3 3 3 3").puts(6, "1 2 -3").puts(7, "2 1 -2 1");
        String[] after = {"", "", "-3", "1 2 3", "", "", "1 2 -3", ""};
        Run erased = x.again().due(1, "change", 1, 0, 0, -1);
        Run open = x.again().due(1, "change", 1, 1, 0, 3);
        for (int spot = 0; spot < 8; spot++) {
            erased.word(after[spot], spot);
            open.word(after[spot], spot);
        }
        // Only 0 is changed: the way back of 1 stays.
        Run first = x.again().due(1, "change", 0, 0, 1, 1).word("", 0).word("-2", 1).word("2 1 -2 1", 7).word("", 5);
        first.due(1, "change", 0, 0, 0, 1).word("", 0);
        Run still = x.again().due(1, "change", 1, 0, 1, 2).word("-1", 0).word("-2", 1).word("2 1 -2 1", 7);
        still.refused(NUMBER, "change", 1, 0, 2, -1).word("-1", 0);
    }

    private static void of() {
        Doc.promise(9);
        Doc.says("Of a STATE: what = 0 what it WRITES for LETTER x, 1 where it GOES, 2 1 if it is BACK, else 0"
            + " (whatever x is).");
        Run x = Run.of(2, new int[] {1, 7, 0, -1}, TURN, ERASE);
        x.due(1, "of", 0, 0, 0).due(7, "of", 0, 0, 1).due(0, "of", 0, 1, 0).due(-1, "of", 0, 1, 1);
        for (int letter : new int[] {LEAST, -1, 0, 1, 2, GREATEST}) {
            x.due(0, "of", 0, letter, 2).due(1, "of", 1, letter, 2).due(0, "of", 2, letter, 2);
        }
        Doc.says("NUMBER is answered as -2 here: there is no such STATE, another what, or (0, 1) x is no LETTER.");
        for (int what = 0; what < 3; what++) {
            x.bounds(-2, 0, 0, 2, "of", 0, 0, what);
            Run.fresh().refused(-2, "of", 0, 0, what);
            eight(2, TURN).bounds(-2, 0, 0, 7, "of", 0, 0, what);
        }
        x.bounds(-2, 2, 0, 2, "of", 1, 0, 0);
        for (int k = 2; k <= 4; k++) {
            Run idle = Run.of(k, STILL);
            idle.bounds(-2, 1, 0, k - 1, "of", 0, 0, 0).bounds(-2, 1, 0, k - 1, "of", 0, 0, 1);
        }
        x.refused(-2, "of", 3, 9, 2).refused(-2, "of", 0, 9, 3);
    }

    private static void many() {
        Doc.promise(10);
        Doc.says("How many: what = 0 LETTERS, 1 STATES, 2 1 if the machine is WHOLE, else 0, 3 TOKENS (all that"
            + " there are);");
        Run.fresh().due(2, "many", 0).due(0, "many", 1).due(1, "many", 2).due(0, "many", 3);
        eight(2, TURN).due(2, "many", 0).due(8, "many", 1).due(1, "many", 2).due(16, "many", 3);
        Run.of(4, STILL).due(4, "many", 0).due(1, "many", 1).due(2, "many", 3);
        eight(2, ERASE).due(8, "many", 1).due(8, "many", 3);
        Run.of(2, new int[] {0, 7, 1, -1}, TURN, ERASE).due(0, "many", 2).due(4, "many", 3);
        Doc.says("-1 for another what.");
        eight(2, TURN).bounds(-1, 0, 0, 3, "many", 0);
    }
}
