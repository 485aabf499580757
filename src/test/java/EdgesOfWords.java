/** The edges of promises 11 to 22, and of the terms that they are told in. */
final class EdgesOfWords extends Edges {
    private static final int TEN = Look.row("0000000000");

    private EdgesOfWords() {
    }

    static void check() {
        tokens();
        wordsThatAreReduced();
        spots();
        partsAtLetters();
        partsAtRows();
        alikeWords();
        theHeap();
        put();
        putRefusals();
        putFull();
        wipeAndSize();
        token();
        times();
        turn();
        act();
        part();
        same();
        apart();
        apartFarDown();
        heap();
        least();
    }

    /** STATES 0 and 1 have ways back, STATE 2 has none. */
    private static Run mixed() {
        return Run.of(2, TURN, new int[] {0, 0, 1, 1}, ERASE);
    }

    /** STATE 0 turns, and STATE 1 goes to 7, which is not there. */
    private static Run open() {
        return Run.of(2, TURN, new int[] {0, 7, 1, -1}).puts(0, "1").puts(1, "1 2");
    }

    /** SPOT 0 has a WORD whose HEAP has 200 WORDS, SPOT 1 one that is not among these. */
    private static Run greatHeaps() {
        Run x = Run.of(3, new int[] {0, 1, 2, 0, 0, -1}, new int[] {2, 1, 1, 0, 0, 0}, TURN);
        return x.puts(0, "1 2 2 2 1 1 1 2 2 2 1 2 1 2 1 2").puts(1, "3");
    }

    private static Run heapOf201() {
        Run x = Run.of(3, new int[] {2, -1, 0, 0, 1, 1}, new int[] {0, 1, 0, 1, 2, 0});
        return x.puts(0, "1 2 2 2 2 2 2 1 2 1 2 2 2 1 1 2");
    }

    /** A HEAP that is SPENT, on a machine that is not WHOLE for a STATE to which nothing comes. */
    private static Run openHeapOf201() {
        return heapOf201().refused(SPENT, "heap", 0).does("sheet", 0, 0, 2).does("cell", 0, 1, 7).does("state", 0, 0);
    }

    /** The HEAPS of SPOTS 0 and 1 have 200 WORDS together, those of 2 and 3 have 201. */
    private static Run heapsTogether() {
        Run x = Run.of(4, new int[] {0, 1, 1, 1, 2, 0, 3, 0}, new int[] {3, 0, 2, 1, 0, 0, 1, 1});
        x.puts(0, "1 1 2 2 1 -2 1 1 2 1").puts(1, "1 2 1 2").puts(2, "2 2 -1 2 1 1").puts(3, "1 1 2 2 1 1 2 2");
        return x;
    }

    // ---- the terms

    private static void tokens() {
        Doc.promise(Doc.TERMS);
        Doc.says("A TOKEN is t: 1 and a STATE's number (its ACT), or the same below 0 (its way back; only of BACK"
            + " STATES).");
        Run x = Run.of(3, new int[] {1, -1, 2, -1, 0, -1}, STILL, new int[] {0, -1, 0, -1, 0, -1});
        x.puts(0, "1").puts(1, "-1").puts(2, "3").due(5, "act", 0, 4).due(6, "act", 1, 4).due(4, "act", 2, 6);
        x.due(5, "many", 3).refused(KIND, "put", 0, -3, 0, 0, 0);
        eight(2, TURN).due(1, "put", 0, 8, 0, 0, 0).due(1, "put", 1, -8, 0, 0, 0).refused(NUMBER, "put", 2, 9, 0, 0, 0)
            .refused(NUMBER, "put", 2, -9, 0, 0, 0);
        Doc.says("TOKENS in order: 1, -1, 2, -2, 3, and so on.");
        Run idlers = Run.of(2, STILL, STILL, ERASE, STILL);
        String[] inOrder = {"1", "-1", "2", "-2", "4", "-4"};
        for (int i = 0; i < inOrder.length; i++) {
            idlers.again().due(1, "law", 1, i, 0).word(inOrder[i], 0);
        }
        String[] fallen = {"", "1", "-1", "2", "-2", "3", "4", "-4"};
        for (int i = 0; i < fallen.length; i++) {
            idlers.again().does("fallen", 1, i, 0).word(fallen[i], 0);
        }
        Doc.says("A WORD is a row of TOKENS; its ACT: theirs, one behind the other, the first one first.");
        Run pair = Run.of(2, TURN, ERASE).puts(0, "1 2").puts(1, "2 1");
        pair.due(4, "act", 0, 4).due(4, "act", 0, 5).due(5, "act", 1, 4).due(5, "act", 1, 5).due(4, "act", 7, 4);
    }

    private static void wordsThatAreReduced() {
        Doc.says("A WORD is REDUCED if no TOKEN stands directly behind its own opposite (t and -t); TO REDUCE"
            + " one: as long as there is such a pair, the first is left out.");
        Run x = mixed();
        x.again().due(0, "put", 0, 1, -1, 0, 0).due(0, "put", 0, -1, 1, 0, 0).due(0, "put", 0, 1, 2, -2, -1);
        x.again().due(1, "put", 0, 1, -1, 1, 0).word("1", 0).due(1, "put", 1, -1, 1, -1, 0).word("-1", 1);
        x.again().due(2, "put", 0, 2, 1, -1, 2).word("2 2", 0).due(4, "put", 1, 1, 2, -1, -2).word("1 2 -1 -2", 1);
        x.again().due(4, "put", 0, 1, 1, 1, 1).word("1 1 1 1", 0);
        Doc.says("All WORDS here are REDUCED, with at most 16 TOKENS;");
        Run full = mixed().puts(0, "1 1 1 1 1 1 1 1").due(16, "times", 0, 0, 1).due(16, "size", 1);
        full.refused(FULL, "put", 1, 1, 0, 0, 0).refused(FULL, "times", 1, 0, 0);
        full.due(16, "put", 1, -1, 2, 0, 0).due(2, "token", 1, 15).due(0, "token", 1, 16);
        Doc.says("they stand by how many TOKENS they have, then by the order of TOKENS at the first place where"
            + " they are unlike.");
        String[] laws = {"1", "-1", "1 1", "-1 -1", "2 2", "-2 -2", "1 1 1", "1 2 2", "1 -2 -2", "-1 -1 -1", "-1 2 2",
            "-1 -2 -2", "2 1 2", "2 1 -2", "2 -1 2"};
        Run idle = Run.of(2, STILL, TURN);
        for (int i = 0; i < laws.length; i++) {
            idle.again().does("law", 3, i, 0).word(laws[i], 0);
        }
    }

    private static void spots() {
        Doc.says("SPOTS are 0 to 7; each has a WORD (the empty one at first).");
        Run x = mixed();
        for (int spot = 0; spot < 8; spot++) {
            x.due(0, "size", spot).due(0, "token", spot, 0);
        }
        for (int spot = 0; spot < 8; spot++) {
            x.due(spot % 4 + 1, "put", spot, 3, spot % 4 > 0 ? 1 : 0, spot % 4 > 1 ? 2 : 0, spot % 4 > 2 ? 3 : 0);
        }
        for (int spot = 0; spot < 8; spot++) {
            x.due(spot % 4 + 1, "size", spot).due(3, "token", spot, 0);
        }
        x.bounds(NUMBER, 0, 0, 7, "size", 0);
    }

    private static void partsAtLetters() {
        Doc.says("PART of a WORD at a LETTER: each TOKEN becomes that of where its STATE GOES for the LETTER that"
            + " stands there when its turn comes (of a way back: the opposite one of where the STATE GOES for the"
            + " LETTER to which that is brought back); IDLE's is left out; then it is REDUCED.");
        // STATE 0 leads 0 to 1, 1 to 2, 2 to 0, and goes to 1, to 2, to IDLE; 1 turns 0 and 1; 2 stands.
        Run x = Run.of(3, new int[] {1, 1, 2, 2, 0, -1}, TURN, STILL);
        x.puts(0, "1").puts(1, "-1").puts(2, "1 1 1").puts(3, "-1 -1 -1").puts(4, "1 2 -1").puts(5, "2 -1");
        String[][] due = {{"2", "3", ""}, {"", "-2", "-3"}, {"2 3", "3 2", "2 3"}, {"-3 -2", "-2 -3", "-3 -2"}};
        for (int spot = 0; spot < 4; spot++) {
            for (int letter = 0; letter < 3; letter++) {
                int size = due[spot][letter].isEmpty() ? 0 : due[spot][letter].split(" ").length;
                x.again().due(size, "part", spot, 4 + letter, 7).word(due[spot][letter], 7);
            }
        }
        // 1 2 -1 at 1: to 3, 2 stands idle at letter 2, and brought back to 1 to -3: a pair that goes.
        x.again().due(0, "part", 4, 5, 7).due(1, "part", 4, 4, 7).word("2", 7).due(1, "part", 4, 6, 7).word("-2", 7);
        x.again().due(1, "part", 5, 4, 7).word("-2", 7).due(0, "part", 5, 5, 7).due(1, "part", 5, 6, 7).word("-3", 7);
        x.again().due(0, "part", 6, 4, 7);
    }

    private static void partsAtRows() {
        Doc.says("PART at a ROW: the PART at its first LETTER, of that the PART at the next one, as the WORD and"
            + " its PARTS read them (the ROW's own LETTERS), and so on.");
        // STATE 0 turns a letter and goes to 1 for 0 and to 2 for 1; 1 and 2 are told apart by where they go.
        Run x = Run.of(2, new int[] {1, 1, 0, 2}, new int[] {1, 0, 0, -1}, new int[] {1, -1, 0, 0}).puts(0, "1");
        x.due(1, "part", 0, 1, 7).word("1", 7);
        x.again().does("part", 0, Look.row("0"), 7).word("2", 7).does("part", 0, Look.row("1"), 7).word("3", 7);
        x.again().does("part", 0, Look.row("00"), 7).word("1", 7).does("part", 0, Look.row("01"), 7).word("", 7);
        x.again().does("part", 0, Look.row("10"), 7).word("", 7).does("part", 0, Look.row("11"), 7).word("1", 7);
        x.again().does("part", 0, Look.row("1100111100"), 7).word("1", 7);
        x.again().does("part", 0, Look.row("1100111101"), 7).word("", 7);
        x.again().does("part", 0, Look.row("110011110"), 7).word("2", 7);
        x.again().puts(1, "1 1").does("part", 1, Look.row("0"), 7).word("2 3", 7).does("part", 1, Look.row("00"), 6)
            .word("1 1", 6);
    }

    private static void alikeWords() {
        Doc.says("Two WORDS are ALIKE if their ACTS are the same on all ROWS, however long. (Exactly if PARTS of"
            + " both at each ROW WRITE the same for each LETTER.)");
        // All STATES stand but the last one: STATE s shows at the letter 8 - s.
        int[][] chain = new int[8][];
        for (int s = 0; s < 7; s++) {
            chain[s] = new int[] {0, s + 1, 1, s + 1};
        }
        chain[7] = TURN;
        Run x = Run.of(2, chain);
        for (int s = 0; s < 8; s++) {
            x.again().does("put", 0, s + 1, 0, 0, 0).due(0, "same", 0, 7).due(0, "same", 7, 0).due(1, "same", 0, 0);
            x.again().does("put", 0, s + 1, s + 1, 0, 0).due(1, "same", 0, 7).does("put", 1, -s - 1, -s - 1, 0, 0)
                .due(1, "same", 0, 1);
        }
        Run sees = Run.of(4, new int[] {0, 0, 1, 0, 2, 0, 2, 0}, STILL).puts(0, "1").puts(1, "2").due(0, "same", 0, 1);
        sees.due(1, "same", 1, 7).due(1, "same", 6, 7);
    }

    private static void theHeap() {
        Doc.says("THE HEAP of some WORDS: these, and all PARTS of them at all ROWS. It is SPENT if it has more"
            + " than 200 WORDS.");
        Run x = greatHeaps().due(200, "heap", 0).due(2, "heap", 1).due(1, "heap", 7).due(1, "same", 0, 0)
            .due(0, "same", 0, 7);
        x.refused(SPENT, "same", 0, 1);
        heapOf201().refused(SPENT, "heap", 0);
        heapsTogether().due(184, "heap", 0).due(16, "heap", 1).due(0, "same", 0, 1).due(0, "same", 1, 0)
            .due(18, "heap", 2).due(183, "heap", 3).refused(SPENT, "same", 2, 3).refused(SPENT, "same", 3, 2);
    }

    // ---- the promises

    private static void put() {
        Doc.promise(11);
        Doc.says("TOKENS come to the end of the WORD of a SPOT, those ahead of the first 0; it is REDUCED then:"
            + " how many it has.");
        Run x = mixed().puts(0, "3 2");
        x.again().due(6, "put", 0, 1, 2, 3, -1).word("3 2 1 2 3 -1", 0);
        x.again().due(5, "put", 0, 1, 2, 3, 0).word("3 2 1 2 3", 0);
        x.again().due(2, "put", 0, 0, 1, 2, 3).word("3 2", 0).due(0, "put", 7, 0, 0, 0, 0).word("", 7);
        x.again().due(3, "put", 0, 1, 0, 2, 3).word("3 2 1", 0).due(5, "put", 0, 1, 1, 0, 3).word("3 2 1 1 1", 0);
        // Behind the first 0 anything may stand.
        x.again().due(2, "put", 0, 0, LEAST, GREATEST, -3).due(3, "put", 0, 1, 0, 4, -4).due(5, "put", 0, 1, 1, 0, -3)
            .due(8, "put", 0, 1, 1, 1, 0).word("3 2 1 1 1 1 1 1", 0);
        x.again().due(1, "put", 0, -2, 0, 0, 0).word("3", 0).due(2, "put", 0, 1, 2, -2, 0).word("3 1", 0);
        x.again().due(4, "put", 0, -2, -2, -2, 1).word("3 -2 -2 1", 0);
        Run.fresh().due(0, "put", 0, 0, 1, 1, 1);
    }

    private static void putRefusals() {
        Doc.says("NUMBER: there is no such SPOT, or one of these is of no STATE");
        Run x = mixed().puts(0, "3 2");
        x.bounds(NUMBER, 0, 0, 7, "put", 0, 1, 2, 0, 0).refused(NUMBER, "put", 8, 0, 0, 0, 0)
            .refused(NUMBER, "put", -1, -3, 0, 0, 0);
        for (int place = 1; place <= 4; place++) {
            for (int token : new int[] {4, -4, 5, -5, 9, -9, LEAST, LEAST + 1, GREATEST}) {
                int[] given = {0, 1, 1, 1, 1};
                given[place] = token;
                x.refused(NUMBER, "put", given);
            }
        }
        Run many = eight(2, TURN).due(2, "put", 0, 8, -8, 8, 8).due(4, "put", 1, -8, -8, 1, -8);
        many.refused(NUMBER, "put", 0, 9, 0, 0, 0).refused(NUMBER, "put", 0, 1, -9, 0, 0);
        Run.fresh().refused(NUMBER, "put", 0, 1, 0, 0, 0).refused(NUMBER, "put", 0, -1, 0, 0, 0);
        // Ahead of KIND, wherever the TOKEN stands, and ahead of FULL.
        x.refused(NUMBER, "put", 0, -3, 4, 0, 0).refused(NUMBER, "put", 0, 4, -3, 0, 0)
            .refused(NUMBER, "put", 0, -3, 1, 1, -4);
        Run full = mixed().puts(0, "1 1 1 1 1 1 1 1 1 1 1 1 1 1 1 1");
        full.refused(NUMBER, "put", 0, 1, 1, 1, 4).refused(NUMBER, "put", 8, 1, 0, 0, 0);
        Doc.says("KIND: one is below 0, and its STATE not BACK");
        for (int place = 1; place <= 4; place++) {
            int[] given = {0, 1, 1, 1, 1};
            given[place] = -3;
            x.refused(KIND, "put", given);
            full.refused(KIND, "put", given);
        }
        x.refused(KIND, "put", 0, 3, -3, 0, 0).again().due(4, "put", 0, 3, 3, 0, -3);
        open().refused(KIND, "put", 0, -2, 0, 0, 0).due(2, "put", 0, 2, 0, 0, 0);
        Run.of(2, TURN, ERASE).does("change", 1, 0, 1, -1).due(1, "put", 0, -2, 0, 0, 0);
    }

    private static void putFull() {
        Doc.says("FULL: it would have more than 16 then.");
        Run fifteen = mixed().puts(0, "1 1 1 1 1 1 1 1 1 1 1 1 1 1 1").due(15, "size", 0);
        fifteen.refused(FULL, "put", 0, 2, 2, 0, 0).refused(FULL, "put", 0, 1, 1, 1, 1).again()
            .due(16, "put", 0, 2, 0, 0, 0);
        fifteen.again().due(16, "put", 0, 2, 2, -2, 0).due(16, "put", 0, 1, -1, 1, -1).due(16, "put", 0, -2, 1, 0, 0);
        Run full = fifteen.again().puts(0, "1").due(16, "size", 0);
        full.refused(FULL, "put", 0, 1, 0, 0, 0).refused(FULL, "put", 0, 2, -2, 3, 0)
            .refused(FULL, "put", 0, 3, 3, 3, 3);
        full.again().due(16, "put", 0, 0, 1, 1, 1).due(16, "put", 0, 2, 1, -1, -2).due(12, "put", 0, -1, -1, -1, -1);
        full.again().due(16, "put", 0, -1, -1, 2, 2).due(16, "put", 0, -2, -2, 1, 3);
    }

    private static void wipeAndSize() {
        Doc.promise(12);
        Doc.says("The WORD of a SPOT becomes empty: how many TOKENS it had.");
        Run x = mixed().puts(0, "1 2 3").puts(7, "1 1 1 1 1 1 1 1 1 1 1 1 1 1 1 1");
        x.again().due(16, "wipe", 7).due(0, "size", 7).due(0, "wipe", 7).due(3, "size", 0).due(3, "wipe", 0)
            .due(0, "wipe", 1);
        Doc.says("NUMBER: there is no such SPOT.");
        x.bounds(NUMBER, 0, 0, 7, "wipe", 0);
        Doc.promise(13);
        Doc.says("How many TOKENS the WORD of a SPOT has.");
        x.due(3, "size", 0).due(16, "size", 7).due(0, "size", 1);
        Doc.says("NUMBER: there is no such SPOT.");
        x.bounds(NUMBER, 0, 0, 7, "size", 0);
    }

    private static void token() {
        Doc.promise(14);
        Doc.says("TOKEN i of the WORD of a SPOT;");
        Run x = eight(2, TURN).puts(0, "8 -7 6 -5 4 -3 2 -1 8 -7 6 -5 4 -3 2 -1").puts(7, "-8");
        int[] tokens = {8, -7, 6, -5, 4, -3, 2, -1};
        for (int i = 0; i < 16; i++) {
            x.due(tokens[i % 8], "token", 0, i);
        }
        x.due(-8, "token", 7, 0);
        Doc.says("0 if there is none such.");
        x.bounds(0, 1, 0, 15, "token", 0, 0).bounds(0, 1, 0, 0, "token", 7, 0);
        x.refused(0, "token", 8, 0).refused(0, "token", -1, 0).refused(0, "token", LEAST, 0)
            .refused(0, "token", GREATEST, 0);
        x.refused(0, "token", 1, 0).refused(0, "token", 6, -1).again().does("wipe", 7).refused(0, "token", 7, 0);
    }

    private static void times() {
        Doc.promise(15);
        Doc.says("The WORD of a, and behind it that of b, REDUCED, comes to a SPOT: how many TOKENS.");
        Run x = mixed().puts(0, "1 2 3").puts(1, "1 -2").puts(2, "2 -1").puts(3, "1 1 1 1 1 1 1 1")
            .puts(4, "-1 -1 -1 -1 -1 -1 -1 -1");
        x.again().due(5, "times", 0, 1, 7).word("1 2 3 1 -2", 7).word("1 2 3", 0).word("1 -2", 1);
        x.again().due(0, "times", 1, 2, 7).due(0, "times", 2, 1, 1).word("", 1);
        x.again().due(5, "times", 0, 1, 0).word("1 2 3 1 -2", 0);
        x.again().due(5, "times", 0, 1, 1).word("1 2 3 1 -2", 1);
        x.again().due(6, "times", 0, 0, 0).word("1 2 3 1 2 3", 0);
        x.again().due(0, "times", 7, 7, 7).due(3, "times", 0, 7, 6).word("1 2 3", 6).due(3, "times", 7, 0, 5)
            .word("1 2 3", 5);
        x.again().due(0, "times", 7, 7, 0).word("", 0);
        x.again().due(16, "times", 3, 3, 7).due(8, "times", 7, 4, 7).due(0, "times", 7, 4, 7).due(0, "times", 3, 4, 3);
        Doc.says("NUMBER: there is no such SPOT");
        x.bounds(NUMBER, 0, 0, 7, "times", 1, 2, 3).bounds(NUMBER, 1, 0, 7, "times", 1, 2, 3)
            .bounds(NUMBER, 2, 0, 7, "times", 1, 2, 3);
        Run full = x.again().does("times", 3, 3, 5).does("times", 4, 4, 6).due(16, "size", 5).due(16, "size", 6);
        full.refused(NUMBER, "times", 5, 5, 8).refused(NUMBER, "times", 5, 8, 5).refused(NUMBER, "times", -1, 5, 5);
        Doc.says("FULL.");
        full.refused(FULL, "times", 5, 5, 0).refused(FULL, "times", 5, 1, 0).refused(FULL, "times", 5, 3, 5)
            .refused(FULL, "times", 3, 5, 3);
        full.refused(FULL, "times", 1, 5, 0).again().due(16, "times", 5, 7, 0).due(16, "times", 7, 5, 0)
            .due(0, "times", 5, 6, 0);
        x.puts(5, "1 1 1 1 1 1 1 1 1").refused(FULL, "times", 5, 3, 7).refused(FULL, "times", 3, 5, 7)
            .due(1, "times", 5, 4, 7);
    }

    private static void turn() {
        Doc.promise(16);
        Doc.says("The WORD's way back (opposite TOKENS, the last one first) comes to a SPOT: how many TOKENS.");
        Run x = eight(2, TURN).puts(0, "8 -7 6 -5 4 -3 2 -1 8 -7 6 -5 4 -3 2 -1").puts(1, "-8");
        x.again().due(16, "turn", 0, 7).word("1 -2 3 -4 5 -6 7 -8 1 -2 3 -4 5 -6 7 -8", 7).due(0, "times", 0, 7, 6);
        x.again().due(16, "turn", 0, 0).word("1 -2 3 -4 5 -6 7 -8 1 -2 3 -4 5 -6 7 -8", 0);
        x.again().due(1, "turn", 1, 0).word("8", 0).due(0, "turn", 5, 0).word("", 0);
        Doc.says("NUMBER: there is no such SPOT");
        x.bounds(NUMBER, 0, 0, 7, "turn", 0, 0).bounds(NUMBER, 1, 0, 7, "turn", 0, 0);
        Run some = mixed().puts(0, "3").puts(1, "3 1 1").puts(2, "1 1 3").puts(3, "1 3 -1").puts(4, "-1 2 -1");
        some.refused(NUMBER, "turn", 0, 8).refused(NUMBER, "turn", 0, -1);
        Doc.says("KIND: a STATE of one of its TOKENS isn't BACK.");
        for (int spot = 0; spot < 4; spot++) {
            some.refused(KIND, "turn", spot, 5).refused(KIND, "turn", spot, spot);
        }
        some.again().due(3, "turn", 4, 5).word("1 -2 1", 5);
        open().refused(KIND, "turn", 1, 0).due(1, "turn", 0, 2);
        open().does("change", 1, 0, 0, -1).due(2, "turn", 1, 0);
    }

    private static void act() {
        Doc.promise(17);
        Doc.says("What the WORD of a SPOT makes of a ROW: the ROW.");
        Run x = Run.on(() -> Benches.odometer(4)).puts(0, "1").puts(7, "-1").puts(1, "1 1 1 1 1 1 1 1 1 1 1 1 1 1 1 1");
        x.due(1, "act", 0, 1).due(4, "act", 0, 7).due(Look.row("0000000000"), "act", 0, Look.row("3333333333"));
        x.due(Look.row("3333333333"), "act", 7, TEN).due(Look.row("001"), "act", 1, Look.row("000"))
            .due(TEN, "act", 2, TEN);
        x.due(Look.row("0000000000"), "act", 1, Look.row("0033333333"));
        Doc.says("NUMBER: there is no such SPOT, no such ROW (of at most 10 LETTERS)");
        x.bounds(NUMBER, 0, 0, 7, "act", 0, 4);
        for (int none : new int[] {LEAST, -1, 0, 2, 3, 8, 15, 4 * TEN, 2 * TEN, TEN - 1, 8 * TEN - 1, GREATEST}) {
            x.refused(NUMBER, "act", 0, none);
        }
        Run open = open().refused(NUMBER, "act", 8, 1).refused(NUMBER, "act", 0, 0).refused(NUMBER, "act", 0, 4 * TEN);
        Doc.says("STATE.");
        open.refused(STATE, "act", 0, 4).refused(STATE, "act", 7, 1).does("change", 1, 0, 0, -1).due(5, "act", 0, 4);
    }

    private static void part() {
        Doc.promise(18);
        Doc.says("The PART of the WORD of a SPOT at a ROW comes to a SPOT: how many TOKENS.");
        Run x = Run.on(() -> Benches.odometer(2)).puts(0, "1 1 1 1 1 1 1 1 1 1 1 1 1 1 1 1").puts(1, "1");
        x.again().due(16, "part", 0, 1, 7).word("1 1 1 1 1 1 1 1 1 1 1 1 1 1 1 1", 7).due(16, "part", 0, 1, 0);
        x.again().due(8, "part", 0, 4, 0).due(4, "part", 0, 5, 0).word("1 1 1 1", 0).due(0, "part", 2, 5, 0)
            .word("", 0);
        x.again().due(1, "part", 1, Look.row("1111111111"), 7).word("1", 7)
            .due(0, "part", 1, Look.row("1111111110"), 7).word("", 7);
        x.again().due(1, "part", 0, Look.row("0000"), 7).due(0, "part", 0, Look.row("00000"), 7)
            .due(1, "part", 0, Look.row("11111"), 7);
        Doc.says("NUMBER: there is no such SPOT, ROW");
        x.bounds(NUMBER, 0, 0, 7, "part", 0, 4, 1).bounds(NUMBER, 2, 0, 7, "part", 0, 4, 1);
        for (int none : new int[] {LEAST, -1, 0, 2, 3, 6, 7, 8, 4 * TEN, TEN - 1, 2 * TEN, GREATEST}) {
            x.refused(NUMBER, "part", 0, none, 1);
        }
        Run open = open().refused(NUMBER, "part", 8, 1, 0).refused(NUMBER, "part", 0, 0, 0)
            .refused(NUMBER, "part", 0, 1, 8);
        Doc.says("STATE.");
        open.refused(STATE, "part", 1, 4, 0).refused(STATE, "part", 7, 1, 0).does("change", 1, 0, 0, -1)
            .due(0, "part", 1, 4, 0);
    }

    private static void same() {
        Doc.promise(19);
        Doc.says("Whether the WORDS of two SPOTS are ALIKE: 1, 0.");
        Run x = Run.on(Benches::grigorchuk).puts(0, "2 3").puts(1, "4").puts(2, "1").puts(3, "1 4 1 4 1 4 1 4")
            .puts(4, "1 3 1 3 1 3 1 3");
        x.due(1, "same", 0, 1).due(1, "same", 1, 0).due(0, "same", 2, 1).due(1, "same", 2, 2).due(1, "same", 6, 7);
        x.due(1, "same", 3, 7).due(0, "same", 4, 7).due(0, "same", 7, 2);
        Doc.says("NUMBER: there is no such SPOT");
        x.bounds(NUMBER, 0, 0, 7, "same", 0, 1).bounds(NUMBER, 1, 0, 7, "same", 0, 1);
        heapOf201().refused(NUMBER, "same", 0, 8).refused(NUMBER, "same", 8, 0).refused(NUMBER, "same", -1, 0);
        Run open = open().refused(NUMBER, "same", 0, 8).refused(NUMBER, "same", -1, 1);
        Doc.says("STATE");
        open.refused(STATE, "same", 0, 0).refused(STATE, "same", 6, 7);
        openHeapOf201().refused(STATE, "same", 0, 7).refused(STATE, "same", 0, 0);
        Doc.says("SPENT: THE HEAP of both is.");
        greatHeaps().due(1, "same", 0, 0).due(0, "same", 0, 7).refused(SPENT, "same", 0, 1)
            .refused(SPENT, "same", 1, 0);
        heapOf201().refused(SPENT, "same", 0, 0).refused(SPENT, "same", 0, 7).refused(SPENT, "same", 7, 0)
            .due(1, "same", 6, 7);
        heapsTogether().due(0, "same", 0, 1).refused(SPENT, "same", 2, 3);
    }

    private static void apart() {
        Doc.promise(20);
        Doc.says("Of two WORDS that aren't ALIKE the ROW with the fewest LETTERS, of several the least, that"
            + " their ACTS make unlike.");
        Run.of(2, TURN).puts(0, "1").due(4, "apart", 0, 7).due(4, "apart", 7, 0);
        Run.of(4, new int[] {0, -1, 1, -1, 3, -1, 2, -1}).puts(0, "1").due(6, "apart", 0, 7);
        Run.of(4, new int[] {0, -1, 1, -1, 2, -1, 2, -1}).puts(0, "1").due(7, "apart", 0, 7);
        // At 0 it takes two letters more, at 1 and at 2 one: so the row is at 1, and there the least letter.
        Run x = Run.of(3, new int[] {0, 1, 1, 2, 2, 2}, new int[] {0, 2, 1, 2, 2, 2}, new int[] {0, -1, 2, -1, 1, -1});
        x.puts(0, "1").puts(1, "2").puts(2, "3").due(Look.row("11"), "apart", 0, 7).due(Look.row("01"), "apart", 1, 7);
        x.due(Look.row("1"), "apart", 2, 7).due(Look.row("01"), "apart", 0, 1).due(Look.row("1"), "apart", 1, 2);
        Run g = Run.on(Benches::grigorchuk).puts(0, "2").puts(1, "3").puts(2, "4").puts(3, "1 2").puts(4, "1 3");
        g.due(Look.row("100"), "apart", 0, 1).due(Look.row("00"), "apart", 1, 2).due(Look.row("000"), "apart", 3, 4);
        // Behind a 2 both turn a 0 to 1; what they make of a 1 is unlike.
        Run late = Run.of(3, new int[] {0, -1, 1, -1, 2, 2}, new int[] {0, -1, 1, -1, 2, 3}, TURN,
            new int[] {1, -1, 2, -1, 0, -1});
        late.puts(0, "1").puts(1, "2").due(Look.row("21"), "apart", 0, 1).due(Look.row("21"), "apart", 1, 0)
            .due(Look.row("20"), "apart", 1, 7);
        Doc.says("NUMBER, STATE, SPENT likewise;");
        x.bounds(NUMBER, 0, 0, 7, "apart", 0, 1).bounds(NUMBER, 1, 0, 7, "apart", 0, 1);
        open().refused(NUMBER, "apart", 8, 0).refused(NUMBER, "apart", 0, -1).refused(STATE, "apart", 0, 1)
            .refused(STATE, "apart", 7, 7);
        heapOf201().refused(NUMBER, "apart", 0, 8).refused(SPENT, "apart", 0, 7).refused(SPENT, "apart", 7, 0)
            .refused(SPENT, "apart", 0, 0);
        greatHeaps().due(4, "apart", 0, 7).refused(SPENT, "apart", 0, 1).refused(SPENT, "apart", 1, 0);
        openHeapOf201().refused(STATE, "apart", 0, 7).refused(STATE, "apart", 0, 0).refused(NUMBER, "apart", 8, 8);
        heapsTogether().due(16, "apart", 0, 1).refused(SPENT, "apart", 2, 3);
    }

    /** Each power of two of a STATE shows three letters deeper; STATES 2, 1 begin one and two letters deeper than 0. */
    private static Run slow() {
        return Run.of(2, new int[] {1, -1, 0, 1}, new int[] {0, 2, 1, 2}, new int[] {0, 0, 1, 0});
    }

    private static void apartFarDown() {
        Run x = slow().puts(0, "1 1 1 1 1 1 1 1 1 1 1 1 1 1 1 1").puts(1, "3 3 3 3 3 3 3 3 3 3 3 3 3 3 3 3");
        x.puts(2, "2 2 2 2 2 2 2 2 2 2 2 2 2 2 2 2").puts(3, "1 1 1 1 1 1 1 1").puts(4, "3 3 3 3 3 3 3 3")
            .puts(5, "2 2 2 2 2 2 2 2");
        Doc.says("(It may have more than 10 LETTERS, but at most 14.)");
        x.due(Look.row("0000000000"), "apart", 3, 7).due(Look.row("00000000000"), "apart", 4, 7);
        x.due(Look.row("000000000000"), "apart", 5, 7).due(Look.row("0000000000000"), "apart", 0, 7);
        x.due(Look.row("00000000000000"), "apart", 1, 7).due(Look.row("00000000000000"), "apart", 7, 1);
        // The same behind twos: 0 and 1 lead nowhere.
        Run twos = Run.of(4, new int[] {0, -1, 1, -1, 3, -1, 2, 1}, new int[] {0, -1, 1, -1, 2, 2, 3, 2},
            new int[] {0, -1, 1, -1, 2, 0, 3, 0});
        twos.puts(0, "3 3 3 3 3 3 3 3 3 3 3 3 3 3 3 3").puts(1, "2 2 2 2 2 2 2 2 2 2 2 2 2 2 2 2");
        twos.due(Look.row("22222222222222"), "apart", 0, 7);
        Doc.says("NEVER: they are ALIKE, or it would have more than 14 LETTERS.");
        x.refused(NEVER, "apart", 2, 7).refused(NEVER, "apart", 7, 2).due(0, "same", 2, 7);
        twos.refused(NEVER, "apart", 1, 7).due(0, "same", 1, 7);
        x.refused(NEVER, "apart", 7, 7).refused(NEVER, "apart", 0, 0).refused(NEVER, "apart", 6, 7);
        Run.on(Benches::grigorchuk).puts(0, "2 3").puts(1, "4").refused(NEVER, "apart", 0, 1)
            .refused(NEVER, "apart", 1, 0);
    }

    private static void refusalsOfHeap(String name) {
        Doc.says("NUMBER, STATE, SPENT likewise.");
        greatHeaps().bounds(NUMBER, 0, 0, 7, name, 0);
        open().refused(NUMBER, name, 8).refused(NUMBER, name, -1).refused(STATE, name, 0).refused(STATE, name, 7);
        openHeapOf201().refused(STATE, name, 0).refused(NUMBER, name, 8);
        heapOf201().refused(SPENT, name, 0).due(1, name, 7);
    }

    private static void heap() {
        Doc.promise(21);
        Doc.says("How many WORDS THE HEAP of the WORD of a SPOT has.");
        Run.fresh().due(1, "heap", 0);
        Run.of(2, new int[] {0, 0, 1, 0}).puts(0, "1").due(1, "heap", 0).due(1, "heap", 7);
        Run.of(2, TURN).puts(0, "1 1").due(2, "heap", 0);
        greatHeaps().due(200, "heap", 0);
        refusalsOfHeap("heap");
    }

    private static void least() {
        Doc.promise(22);
        Doc.says("How many of these are unlike: of ALIKE ones one is counted.");
        Run.fresh().due(1, "least", 0);
        Run.on(Benches::grigorchuk).puts(0, "2 3 4").due(5, "heap", 0).due(1, "least", 0).puts(1, "2")
            .due(5, "least", 1);
        Run.of(2, TURN).puts(0, "1 1").due(1, "least", 0).puts(1, "1").due(2, "least", 1);
        greatHeaps().due(176, "least", 0);
        // These are all unlike, but it takes more than fourteen letters to see.
        slow().puts(0, "2 2 2 2 2 2 2 2 2 2 2 2 2 2 2 2").due(16, "heap", 0).due(16, "least", 0);
        refusalsOfHeap("least");
    }
}
