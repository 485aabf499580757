/** The edges of promises 30 to 34, and of the terms that they are told in. */
final class EdgesOfShortWords extends Edges {
    private EdgesOfShortWords() {
    }

    static void check() {
        within();
        growthAndLawsAsTerms();
        fallAsTerm();
        fallSpent();
        growth();
        laws();
        law();
        lawRefusals();
        fall();
        fallen();
    }

    /** Six STATES with ways back that do nothing, two without: 199 WORDS have at most 2 TOKENS. */
    private static Run within199() {
        return Run.of(2, STILL, STILL, STILL, STILL, STILL, STILL, ERASE, new int[] {1, -1, 1, -1});
    }

    /** Two STATES with ways back, two without: 211 WORDS have at most 3 TOKENS. */
    private static Run within211() {
        return Run.of(2, STILL, STILL, ERASE, ERASE);
    }

    private static Run open() {
        return Run.of(2, STILL, STILL, STILL, STILL, STILL, STILL, new int[] {1, -1, 0, 7}).puts(0, "7 1");
    }

    // ---- the terms

    private static void within() {
        Doc.promise(Doc.TERMS);
        Doc.says("WITHIN m: the REDUCED WORDS of at most m TOKENS (m is 0 to 5), in order. It is SPENT if they"
            + " are more than 200.");
        // With so few STATES no number of WORDS from 200 to 210 can be had.
        within199().due(3, "growth", 2).due(144, "laws", 2).refused(SPENT, "growth", 3);
        within211().due(2, "growth", 2).refused(SPENT, "growth", 3).refused(SPENT, "laws", 3);
        // One STATE: 2 m + 1 words with a way back, m + 1 without.
        Run back = Run.of(2, STILL);
        Run erase = Run.of(2, ERASE);
        for (int m = 0; m <= 5; m++) {
            back.due(2 * m, "laws", m);
            erase.due(0, "laws", m).due(m == 0 ? 1 : 2, "growth", m);
        }
        String[] words = {"1", "-1", "1 1", "-1 -1", "1 1 1", "-1 -1 -1", "1 1 1 1", "-1 -1 -1 -1", "1 1 1 1 1",
            "-1 -1 -1 -1 -1"};
        for (int i = 0; i < words.length; i++) {
            back.again().does("law", 5, i, 0).word(words[i], 0);
        }
    }

    private static void growthAndLawsAsTerms() {
        Doc.says("GROWTH of m: how many of them are unlike (of ALIKE ones one is counted).");
        Run.of(2, STILL, STILL).due(1, "growth", 4);
        Run.of(2, TURN, TURN).due(2, "growth", 4);
        Run.on(() -> Benches.odometer(2)).due(1, "growth", 0).due(11, "growth", 5);
        Doc.says("A LAW within m: one of them, but the empty one, that is ALIKE to the empty one.");
        Run.of(2, STILL).due(0, "laws", 0).due(2, "laws", 1);
        Run.of(2, TURN).due(0, "laws", 1).due(2, "laws", 2).due(2, "laws", 3).due(4, "laws", 4);
        Run.on(() -> Benches.odometer(2)).due(0, "laws", 5);
    }

    private static void fallAsTerm() {
        Doc.says("TO FALL by depth d (1 or 2): a heap of WORDS begins with the empty one and those of one TOKEN,"
            + " in order.");
        String[] tokens = {"", "1", "-1", "2", "3", "-3"};
        Run alike = Run.of(2, STILL, ERASE, STILL);
        for (int d = 1; d <= 2; d++) {
            alike.due(6, "fall", d);
            for (int i = 0; i < tokens.length; i++) {
                alike.again().does("fallen", d, i, 0).word(tokens[i], 0);
            }
            eight(2, STILL).due(17, "fall", d)
                .does("fallen", d, 16, 0).word("-8", 0);
            Run.fresh().due(1, "fall", d).due(0, "fallen", d, 0, 0);
        }
        eight(4, STILL).due(17, "fall", 2);
        Doc.says("It is gone over from its first WORD on, as it grows: for each TOKEN in order, the WORD with the"
            + " TOKEN behind it (REDUCED), for each ROW of d LETTERS, by numbers: the PART there; if no WORD of"
            + " the heap is ALIKE to it, it comes to its end.");
        for (FallenHeap heap : HEAPS) {
            Run x = Run.of(heap.k, heap.states).due(heap.words.length, "fall", heap.d);
            for (int i = 0; i < heap.words.length; i++) {
                x.again().does("fallen", heap.d, i, 0).word(heap.words[i], 0);
            }
        }
        Doc.says("It ends when all are gone over: the heap is CLOSED.");
        for (FallenHeap heap : HEAPS) {
            Run.of(heap.k, heap.states).due(heap.words.length, "fall", heap.d)
                .refused(NEVER, "fallen", heap.d, heap.words.length, 0);
        }
    }

    /** A machine, and the heap that is CLOSED by FALLING by a depth, WORD by WORD. */
    private record FallenHeap(int k, int d, int[][] states, String... words) {
        Run run() {
            return Run.of(k, states);
        }
    }

    private static final int[][] TWENTY = {{2, 0, 1, 0, 0, 1}, {2, 0, 0, 0, 1, 0}};
    private static final int[][] TWENTY_DEEPER = {{0, 1, 3, 1, 1, 1, 2, 0}, {2, 1, 0, 1, 3, 1, 1, 1}};

    /** The HEAP of all that is looked at has 200 WORDS on the way to these two. */
    private static final FallenHeap HEAP_OF_200 = new FallenHeap(3, 1,
        new int[][] {{0, 2, 2, 0, 1, 2}, {1, 2, 0, 1, 2, 0}, {0, 2, 2, 2, 1, 0}},
        "", "1", "-1", "2", "-2", "3", "-3", "3 2", "3 -2", "2 3", "-2 1", "1 2 3", "3 -2 1", "2 3 -2", "3 2 3 -2",
        "2 3 -2 1", "1 2 3 -2 1");
    private static final FallenHeap HEAP_OF_200_DEEPER = new FallenHeap(2, 2,
        new int[][] {{1, 2, 0, 1}, {0, 1, 0, 1}, {1, 0, 0, 2}},
        "", "1", "2", "3", "2 1", "1 3", "3 1", "3 3", "1 3 1", "3 1 3", "1 3 3", "3 3 3", "3 1 3 3", "1 3 3 3",
            "3 1 3 3 3");

    private static final FallenHeap[] HEAPS = {
        new FallenHeap(3, 1, TWENTY, "", "1", "-1", "2", "-2", "1 2", "1 1", "2 1", "2 -1", "-2 1", "1 -2", "-1 2",
            "1 1 -2", "2 1 1", "1 2 -1", "1 1 2", "1 -2 1", "-1 2 -1", "1 1 2 -1", "1 1 -2 1"),
        new FallenHeap(3, 2, TWENTY, "", "1", "-1", "2", "-2", "1 1", "2 1", "1 2", "1 -2", "-1 2", "2 -1", "-2 1",
            "1 1 2", "1 1 -2", "2 1 1", "1 2 -1"),
        new FallenHeap(4, 2, TWENTY_DEEPER, "", "1", "-1", "2", "-2", "2 2", "2 1", "1 2", "1 -2", "-1 2", "2 -1",
            "-2 1",
            "2 2 1", "2 2 -1", "2 1 -2", "1 2 2", "2 -1 2", "-2 1 -2", "2 2 1 -2", "2 2 -1 2"),
        HEAP_OF_200,
        HEAP_OF_200_DEEPER,
    };

    /** Its heap would be CLOSED with 21 WORDS, by depth 1. */
    private static Run fallOf21() {
        return Run.of(2, new int[] {1, 0, 0, 1}, TURN).puts(0, "1 2");
    }

    /** Its heap would be CLOSED with 21 WORDS, by depth 2. */
    private static Run fallOf21Deeper() {
        return Run.of(3, new int[] {1, 0, 2, 0, 0, 0}, new int[] {0, 0, 1, 1, 2, 0}).puts(0, "1 2");
    }

    private static void fallSpent() {
        Doc.says("It is SPENT if a 21st WORD would come,");
        Run.of(3, TWENTY).due(20, "fall", 1);
        Run.of(4, TWENTY_DEEPER).due(20, "fall", 2);
        fallOf21().refused(SPENT, "fall", 1);
        fallOf21Deeper().refused(SPENT, "fall", 2);
        Doc.says("or a WORD with a TOKEN behind it has more than 16 TOKENS,");
        // STATE 0 falls to itself at 0, and its powers are all unlike: the 17th comes while there are but 17 WORDS.
        Run.of(4, new int[] {0, 0, 0, -1, 3, -1, 2, 0}).refused(SPENT, "fall", 1).refused(SPENT, "fall", 2);
        // Here they are unlike up to the 14th, and then no more: no longer WORDS were found in a heap that is CLOSED.
        Run longest = Run.of(4, new int[] {0, 0, 3, -1, 1, -1, 2, 1}, new int[] {2, -1, 3, -1, 1, 1, 3, 2},
            new int[] {3, 2, 3, 2, 3, 2, 3, 2});
        longest.due(19, "fall", 1).due(14, "fallen", 1, 18, 0).word("1 1 1 1 1 1 1 1 1 1 1 1 1 1", 0);
        Doc.says("or THE HEAP of all WORDS that are in the heap (those of its beginning all together) and all"
            + " PARTS that were looked at, the latest one too, is.");
        HEAP_OF_200.run().due(17, "fall", 1);
        HEAP_OF_200_DEEPER.run().due(15, "fall", 2);
        // These would be CLOSED with 15 and with 13 WORDS, but THE HEAP would have 201.
        Run.of(2, new int[] {1, 2, 0, 0}, new int[] {0, 1, 0, 1}, new int[] {1, 0, 0, 1}).refused(SPENT, "fall", 1);
        Run.of(2, new int[] {1, 2, 0, 3}, new int[] {0, 2, 1, 2}, new int[] {0, 1, 1, 2}, new int[] {0, 0, 1, 0})
            .refused(SPENT, "fall", 2);
        // The WORD with the TOKEN behind it is no PART, nor are by depth 2 its PARTS at one LETTER looked at: with
        // these THE HEAPS here would be too great.
        Run.of(3, new int[] {2, 0, 1, 1, 0, 0}, new int[] {2, 0, 1, 0, 0, 0}, new int[] {1, 2, 2, 2, 0, 1})
            .due(13, "fall", 1);
        Run.of(3, new int[] {2, 1, 1, 0, 0, 0}, new int[] {2, 0, 1, 0, 0, 1}, new int[] {2, 1, 0, 1, 1, 2})
            .due(17, "fall", 2);
    }

    // ---- the promises

    private static void growth() {
        Doc.promise(30);
        Doc.says("GROWTH of m.");
        askedInTurn();
        Run x = Run.on(() -> Benches.odometer(3)).puts(0, "1 1");
        for (int m = 0; m <= 5; m++) {
            x.due(2 * m + 1, "growth", m);
            Run.fresh().due(1, "growth", m);
        }
        Doc.says("NUMBER: m isn't 0 to 5");
        x.bounds(NUMBER, 0, 0, 5, "growth", 0);
        open().refused(NUMBER, "growth", -1).refused(NUMBER, "growth", 6);
        within211().refused(NUMBER, "growth", 6).refused(NUMBER, "growth", -1);
        Doc.says("STATE");
        open().refused(STATE, "growth", 0).refused(STATE, "growth", 2).refused(STATE, "growth", 5);
        Doc.says("SPENT.");
        within211().refused(SPENT, "growth", 3).refused(SPENT, "growth", 5).due(2, "growth", 2);
        within199().due(3, "growth", 2);
    }

    /** Answers that are asked for in turn, with STATES that change between them: none may be an earlier one's. */
    private static void askedInTurn() {
        Run x = Run.on(() -> Benches.odometer(2)).due(9, "growth", 4).due(3, "fall", 1).due(9, "growth", 4)
            .due(3, "fall", 2);
        x.due(0, "laws", 4).due(1, "fallen", 2, 2, 0).due(0, "laws", 4).due(7, "growth", 3).due(3, "fall", 1);
        x.does("change", 0, 1, 0, -1).due(3, "fall", 1).due(2, "growth", 3);
        x.does("change", 0, 1, 0, 0).due(7, "growth", 3).does("change", 0, 1, 0, -1).due(2, "laws", 3)
            .due(2, "law", 3, 0, 7);
        x.does("sheet", 0, 0, 0).does("state", 0, 0).due(2, "growth", 3).due(24, "laws", 3).due(5, "fall", 1);
        x.does("state", 0, 0).due(7, "fall", 1).does("letters", 2).due(1, "fall", 1).does("state", 0, 0)
            .due(6, "laws", 3);
        x.does("letters", 3).due(0, "laws", 3).due(1, "growth", 3);
    }

    private static void laws() {
        Doc.promise(31);
        Doc.says("How many LAWS there are within m.");
        Run x = Run.of(2, STILL).puts(0, "1 1");
        for (int m = 0; m <= 5; m++) {
            x.due(2 * m, "laws", m);
            Run.fresh().due(0, "laws", m);
        }
        Doc.says("NUMBER, STATE, SPENT likewise.");
        x.bounds(NUMBER, 0, 0, 5, "laws", 0);
        open().refused(NUMBER, "laws", -1).refused(NUMBER, "laws", 6).refused(STATE, "laws", 0)
            .refused(STATE, "laws", 5);
        within211().refused(NUMBER, "laws", 6).refused(SPENT, "laws", 3).refused(SPENT, "laws", 5).due(16, "laws", 2);
        within199().due(144, "laws", 2);
    }

    private static void law() {
        Doc.promise(32);
        Doc.says("LAW i (from 0 on, in order) within m comes to a SPOT: how many TOKENS.");
        String[] laws = {"1 1", "-1 -1", "2 2", "-2 -2", "3 3", "-3 -3", "4 4", "-4 -4"};
        Run x = Run.on(Benches::grigorchuk).puts(0, "1 2").puts(7, "3 4");
        for (int i = 0; i < laws.length; i++) {
            x.again().due(2, "law", 2, i, i).word(laws[i], i);
        }
        Run idle = Run.of(2, STILL);
        idle.due(5, "law", 5, 9, 0).word("-1 -1 -1 -1 -1", 0).due(5, "law", 5, 8, 0).due(1, "law", 5, 0, 0)
            .word("1", 0);
        within199().due(2, "law", 2, 143, 0).word("-6 -6", 0);
    }

    private static void lawRefusals() {
        Doc.says("NUMBER: there is no such SPOT, or m isn't 0 to 5");
        Run x = Run.of(2, STILL).puts(0, "1 1 1");
        x.bounds(NUMBER, 2, 0, 7, "law", 2, 0, 0).bounds(NUMBER, 0, 0, 5, "law", 2, 0, 0);
        open().refused(NUMBER, "law", 2, 0, 8).refused(NUMBER, "law", 6, 0, 0);
        within211().refused(NUMBER, "law", 3, 0, 8).refused(NUMBER, "law", 6, 0, 0).refused(NUMBER, "law", -1, 0, 0);
        x.refused(NUMBER, "law", 2, -1, 8).refused(NUMBER, "law", 6, -1, 0);
        Doc.says("STATE");
        open().refused(STATE, "law", 0, 0, 0).refused(STATE, "law", 5, 0, 0).refused(STATE, "law", 2, -1, 0);
        Doc.says("SPENT");
        within211().refused(SPENT, "law", 3, 0, 0).refused(SPENT, "law", 3, -1, 0)
            .refused(SPENT, "law", 5, GREATEST, 0);
        Doc.says("NEVER: there is none such.");
        int[] laws = {0, 2, 4, 6, 8, 10};
        for (int m = 0; m <= 5; m++) {
            x.refused(NEVER, "law", m, laws[m], 0).refused(NEVER, "law", m, -1, 0);
            x.refused(NEVER, "law", m, LEAST, 0).refused(NEVER, "law", m, GREATEST, 0);
        }
        Run.on(() -> Benches.odometer(2)).puts(0, "1").refused(NEVER, "law", 5, 0, 0);
        within199().puts(0, "7").refused(NEVER, "law", 2, 144, 0);
    }

    private static void fall() {
        Doc.promise(33);
        Doc.says("How many WORDS the heap has that is CLOSED by FALLING by depth d.");
        Run.fresh().due(1, "fall", 1).due(1, "fall", 2);
        Run.on(Benches::grigorchuk).due(9, "fall", 1).due(9, "fall", 2);
        Run.of(3, TWENTY).due(20, "fall", 1).due(16, "fall", 2).due(20, "fall", 1);
        Doc.says("NUMBER: d isn't 1 or 2");
        Run.of(3, TWENTY).bounds(NUMBER, 0, 1, 2, "fall", 1);
        open().refused(NUMBER, "fall", 0).refused(NUMBER, "fall", 3);
        fallOf21().refused(NUMBER, "fall", 0).refused(NUMBER, "fall", 3);
        Doc.says("STATE");
        open().refused(STATE, "fall", 1).refused(STATE, "fall", 2);
        fallOf21().does("sheet", 0, 0, 2).does("cell", 0, 1, 7).does("state", 0, 0).refused(STATE, "fall", 1);
        Doc.says("SPENT.");
        fallOf21().refused(SPENT, "fall", 1);
        fallOf21Deeper().refused(SPENT, "fall", 2);
    }

    private static void fallen() {
        Doc.promise(34);
        Doc.says("WORD i (from 0 on) of that heap comes to a SPOT: how many TOKENS.");
        Run x = Run.of(3, TWENTY).puts(0, "1 2 1 2 1 2").puts(7, "2");
        x.again().due(0, "fallen", 1, 0, 0).word("", 0).due(1, "fallen", 1, 4, 7).word("-2", 7)
            .due(4, "fallen", 1, 19, 7).word("1 1 -2 1", 7);
        x.again().due(3, "fallen", 2, 15, 3).word("1 2 -1", 3).due(3, "fallen", 1, 15, 3).word("1 1 2", 3);
        Doc.says("NUMBER: there is no such SPOT, or d isn't 1 or 2");
        x.bounds(NUMBER, 2, 0, 7, "fallen", 1, 3, 0).bounds(NUMBER, 0, 1, 2, "fallen", 1, 3, 0);
        x.refused(NUMBER, "fallen", 1, -1, 8).refused(NUMBER, "fallen", 3, -1, 0);
        open().refused(NUMBER, "fallen", 1, 0, 8).refused(NUMBER, "fallen", 0, 0, 0).refused(NUMBER, "fallen", 3, 0, 0);
        fallOf21().refused(NUMBER, "fallen", 1, 0, -1).refused(NUMBER, "fallen", 0, 0, 0);
        Doc.says("STATE");
        open().refused(STATE, "fallen", 1, 0, 0).refused(STATE, "fallen", 2, -1, 0);
        fallOf21().does("sheet", 0, 0, 2).does("cell", 0, 1, 7).does("state", 0, 0).refused(STATE, "fallen", 1, 0, 0);
        Doc.says("SPENT");
        fallOf21().refused(SPENT, "fallen", 1, 0, 0).refused(SPENT, "fallen", 1, -1, 0)
            .refused(SPENT, "fallen", 1, 20, 0);
        fallOf21Deeper().refused(SPENT, "fallen", 2, 1, 0);
        Doc.says("NEVER: it has no WORD i.");
        x.bounds(NEVER, 1, 0, 19, "fallen", 1, 0, 0).bounds(NEVER, 1, 0, 15, "fallen", 2, 0, 0);
        Run.fresh().bounds(NEVER, 1, 0, 0, "fallen", 1, 0, 0).refused(NEVER, "fallen", 2, 1, 7);
    }
}
