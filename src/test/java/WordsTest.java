/** Promises 11 to 22: put, wipe, size, token, times, turn, act, part, same, apart, heap, least. */
public final class WordsTest {
    private WordsTest() {
    }

    public static void main(String[] args) {
        puts();
        putRefusals();
        wipesSizesTokens();
        times();
        turns();
        acts();
        actsOfWaysBack();
        parts();
        rowsThatAreNone();
        sames();
        aparts();
        apartsFarDown();
        heaps();
        heapEdge();
        leasts();
        notWhole();
        Due.end();
    }

    private static void puts() {
        SwitchTower x = Benches.grigorchuk();
        Due.due("put(0, 1, 2, 0, 3)", x.put(0, 1, 2, 0, 3), 2);
        Due.due("word 0", Look.word(x, 0), "1 2");
        Due.due("put(0, 0, 99, 99, 99): none is ahead of the 0", x.put(0, 0, 99, 99, 99), 2);
        Due.due("put(0, -2, -1, 4, 0)", x.put(0, -2, -1, 4, 0), 1);
        Due.due("word 0", Look.word(x, 0), "4");
        Due.due("put(0, 3, -3, 3, -3)", x.put(0, 3, -3, 3, -3), 1);
        Due.due("put(0, 3, 2, -2, -3)", x.put(0, 3, 2, -2, -3), 1);
        Due.due("put(0, -4, 0, 0, 0)", x.put(0, -4, 0, 0, 0), 0);
        Due.due("put(7, 1, 1, 1, 1): alike words are kept apart", x.put(7, 1, 1, 1, 1), 4);
        Due.due("put(7, 1, 1, 1, 1)", x.put(7, 1, 1, 1, 1), 8);
        Due.due("put(7, 1, 1, 1, 1)", x.put(7, 1, 1, 1, 1), 12);
        Due.due("put(7, 1, 1, 1, 0)", x.put(7, 1, 1, 1, 0), 15);
        Due.unchanged(x, "put(7, 2, 3, 0, 0)", () -> x.put(7, 2, 3, 0, 0), -2);
        Due.due("put(7, 2, 3, -3, 0)", x.put(7, 2, 3, -3, 0), 16);
        Due.due("put(7, 4, -4, 4, -4)", x.put(7, 4, -4, 4, -4), 16);
        Due.unchanged(x, "put(7, 4, -4, 4, 0)", () -> x.put(7, 4, -4, 4, 0), -2);
        Due.due("put(7, -2, 4, 0, 0)", x.put(7, -2, 4, 0, 0), 16);
        Due.due("word 7", Look.word(x, 7), "1 1 1 1 1 1 1 1 1 1 1 1 1 1 1 4");
        Due.due("put(7, -4, -1, -1, -1)", x.put(7, -4, -1, -1, -1), 12);
    }

    private static void putRefusals() {
        SwitchTower x = Benches.eraser();
        x.put(0, 1, 2, -2, 1);
        Due.due("word 0", Look.word(x, 0), "1 1");
        Due.unchanged(x, "put(-1, 1, 0, 0, 0)", () -> x.put(-1, 1, 0, 0, 0), -1);
        Due.unchanged(x, "put(8, 1, 0, 0, 0)", () -> x.put(8, 1, 0, 0, 0), -1);
        Due.unchanged(x, "put(0, 3, 0, 0, 0)", () -> x.put(0, 3, 0, 0, 0), -1);
        Due.unchanged(x, "put(0, 1, 2, 1, -3)", () -> x.put(0, 1, 2, 1, -3), -1);
        Due.unchanged(x, "put(0, -1, 9, 0, 0)", () -> x.put(0, -1, 9, 0, 0), -1);
        Due.unchanged(x, "put(0, -1, least, 0, 0)", () -> x.put(0, -1, Integer.MIN_VALUE, 0, 0), -1);
        Due.unchanged(x, "put(0, greatest, 0, 0, 0)", () -> x.put(0, Integer.MAX_VALUE, 0, 0, 0), -1);
        Due.unchanged(x, "put(0, -1, 0, 0, 0)", () -> x.put(0, -1, 0, 0, 0), -6);
        Due.unchanged(x, "put(0, 2, 1, -1, 0)", () -> x.put(0, 2, 1, -1, 0), -6);
        Due.due("put(0, 2, 0, -1, 9)", x.put(0, 2, 0, -1, 9), 3);
        for (int i = 0; i < 3; i++) {
            x.put(0, 1, 1, 1, 1);
        }
        Due.due("size(0)", x.size(0), 15);
        Due.unchanged(x, "put(0, 1, 1, -1, 0): KIND ahead of FULL", () -> x.put(0, 1, 1, -1, 0), -6);
        Due.unchanged(x, "put(0, 1, 1, 0, 0)", () -> x.put(0, 1, 1, 0, 0), -2);
        SwitchTower none = new SwitchTower();
        Due.due("put with no states", none.put(0, 1, 0, 0, 0), -1);
        Due.due("put of nothing with no states", none.put(0, 0, 0, 0, 0), 0);
        SwitchTower open = Benches.of(2, new int[] {1, 3, 0, -1});
        Due.due("a token of a state that goes where none is", open.put(0, 1, 0, 0, 0), 1);
        Due.due("its way back", open.put(0, -1, 0, 0, 0), -6);
    }

    private static void wipesSizesTokens() {
        SwitchTower x = Benches.grigorchuk();
        x.put(2, 1, -2, 3, -4);
        x.put(3, 1, 0, 0, 0);
        Due.due("size(2)", x.size(2), 4);
        Due.due("token(2, 0)", x.token(2, 0), 1);
        Due.due("token(2, 1)", x.token(2, 1), -2);
        Due.due("token(2, 2)", x.token(2, 2), 3);
        Due.due("token(2, 3)", x.token(2, 3), -4);
        Due.due("token(2, 4)", x.token(2, 4), 0);
        Due.due("token(2, -1)", x.token(2, -1), 0);
        Due.due("token(2, greatest)", x.token(2, Integer.MAX_VALUE), 0);
        Due.due("token(8, 0)", x.token(8, 0), 0);
        Due.due("token(-1, 0)", x.token(-1, 0), 0);
        Due.due("size(8)", x.size(8), -1);
        Due.due("size(-1)", x.size(-1), -1);
        Due.unchanged(x, "wipe(8)", () -> x.wipe(8), -1);
        Due.unchanged(x, "wipe(-1)", () -> x.wipe(-1), -1);
        Due.due("wipe(2)", x.wipe(2), 4);
        Due.due("size(2)", x.size(2), 0);
        Due.due("size(3)", x.size(3), 1);
        Due.due("wipe(2) again", x.wipe(2), 0);
    }

    private static void times() {
        SwitchTower x = Benches.grigorchuk();
        x.put(0, 1, 2, -3, 4);
        x.put(1, -4, 3, 1, 2);
        Due.due("times(0, 1, 2)", x.times(0, 1, 2), 4);
        Due.due("word 2", Look.word(x, 2), "1 2 1 2");
        Due.due("times(1, 0, 0): to its own second", x.times(1, 0, 0), 8);
        Due.due("word 0", Look.word(x, 0), "-4 3 1 2 1 2 -3 4");
        Due.due("times(0, 0, 0): with itself", x.times(0, 0, 0), 12);
        Due.due("word 0", Look.word(x, 0), "-4 3 1 2 1 2 1 2 1 2 -3 4");
        Due.due("times(5, 0, 6): behind the empty one", x.times(5, 0, 6), 12);
        Due.due("times(2, 0, 3)", x.times(2, 0, 3), 16);
        Due.unchanged(x, "times(3, 2, 4)", () -> x.times(3, 2, 4), -2);
        Due.unchanged(x, "times(0, 6, 0)", () -> x.times(6, 3, 0), -2);
        x.turn(3, 4);
        Due.due("times(3, 4, 7): all of sixteen go", x.times(3, 4, 7), 0);
        Due.unchanged(x, "times(8, 0, 0)", () -> x.times(8, 0, 0), -1);
        Due.unchanged(x, "times(0, -1, 0)", () -> x.times(0, -1, 0), -1);
        Due.unchanged(x, "times(0, 0, 8)", () -> x.times(0, 0, 8), -1);
        Due.unchanged(x, "times(3, 3, -1): NUMBER ahead of FULL", () -> x.times(3, 3, -1), -1);
    }

    private static void turns() {
        SwitchTower x = Benches.eraser();
        x.put(0, 2, 2, 0, 0);
        x.put(1, 2, 1, 2, 0);
        Due.due("turn(0, 3)", x.turn(0, 3), 2);
        Due.due("word 3", Look.word(x, 3), "-2 -2");
        Due.unchanged(x, "turn(1, 3)", () -> x.turn(1, 3), -6);
        Due.unchanged(x, "turn(8, 3)", () -> x.turn(8, 3), -1);
        Due.unchanged(x, "turn(-1, 3)", () -> x.turn(-1, 3), -1);
        Due.unchanged(x, "turn(1, 8): NUMBER ahead of KIND", () -> x.turn(1, 8), -1);
        Due.unchanged(x, "turn(0, -1)", () -> x.turn(0, -1), -1);
        Due.due("turn(5, 3) of the empty one", x.turn(5, 3), 0);
        SwitchTower g = Benches.grigorchuk();
        g.put(0, 1, -2, 3, 3);
        Due.due("turn(0, 0) where it stands", g.turn(0, 0), 4);
        Due.due("word 0", Look.word(g, 0), "-3 -3 2 -1");
        SwitchTower open = Benches.of(2, new int[] {1, 3, 0, -1}, new int[] {1, -1, 0, -1});
        open.put(0, 1, 0, 0, 0);
        open.put(1, 2, 0, 0, 0);
        Due.due("turn of a state that goes where none is", open.turn(0, 0), -6);
        Due.due("turn of one beside it", open.turn(1, 0), 1);
    }

    private static void acts() {
        SwitchTower x = Benches.odometer(2);
        x.put(0, 1, 0, 0, 0);
        x.put(1, 1, 1, 1, 0);
        x.put(2, -1, 0, 0, 0);
        Due.due("act(0, 1)", x.act(0, 1), 1);
        // 1 1 0 1 is 11, with the lowest digit first; 12 is 0 0 1 1.
        Due.due("act(0, 337)", x.act(0, 337), Look.row("0011"));
        Due.due("act(1, 1101)", x.act(1, Look.row("1101")), Look.row("0111"));
        Due.due("act(2, 0000)", x.act(2, Look.row("0000")), Look.row("1111"));
        Due.due("act of ten letters", x.act(0, Look.row("1111111111")), Look.row("0000000000"));
        Due.due("act of ten letters, the way back", x.act(2, Look.row("0000000001")), Look.row("1111111110"));
        Due.due("act of eleven letters", x.act(0, 4 * Look.row("1111111111")), -1);
        Due.due("act of the empty word", x.act(5, Look.row("0101")), Look.row("0101"));
        Due.due("act(8, 1)", x.act(8, 1), -1);
        Due.due("act(-1, 1)", x.act(-1, 1), -1);
        SwitchTower e = Benches.eraser();
        e.put(0, 2, 1, 2, 0);
        Due.due("the first token acts first", e.act(0, Look.row("000")), Look.row("011"));
        e.wipe(0);
        e.put(0, 1, 2, 0, 0);
        Due.due("act 1 2", e.act(0, Look.row("010")), Look.row("011"));
        SwitchTower four = Benches.odometer(4);
        four.put(0, 1, 0, 0, 0);
        Due.due("act on four letters", four.act(0, Look.row("3333333332")), Look.row("0000000003"));
    }

    private static void actsOfWaysBack() {
        // A three-letter machine whose goals hang on the letter: 0 1 2 become 1 2 0.
        SwitchTower x = Benches.of(3, new int[] {1, 0, 2, 1, 0, -1}, new int[] {0, 0, 2, -1, 1, 1});
        x.put(0, 1, 0, 0, 0);
        x.put(1, -1, 0, 0, 0);
        Due.due("act 1 on 0112", x.act(0, Look.row("0112")), Look.row("1222"));
        Due.due("act -1 on 1222", x.act(1, Look.row("1222")), Look.row("0112"));
        for (int a = 0; a < 3; a++) {
            for (int b = 0; b < 3; b++) {
                for (int c = 0; c < 3; c++) {
                    int row = 4 * (4 * (4 + a) + b) + c;
                    Due.due("there and back on " + row, x.act(1, x.act(0, row)), row);
                }
            }
        }
    }

    private static void parts() {
        SwitchTower x = Benches.grigorchuk();
        x.put(0, 2, 1, 2, 1);
        // b a b a at 0: b goes to a and keeps 0; a turns it to 1; b goes to c; a turns it back.
        Due.due("part(0, 4, 1)", x.part(0, Look.row("0"), 1), 2);
        Due.due("word 1", Look.word(x, 1), "1 3");
        Due.due("part(0, 5, 1)", x.part(0, Look.row("1"), 1), 2);
        Due.due("word 1", Look.word(x, 1), "3 1");
        // 1 3 at 0: a goes IDLE and makes 1; c goes to d for 1.
        Due.due("part at 00", x.part(0, Look.row("00"), 2), 1);
        Due.due("word 2", Look.word(x, 2), "4");
        Due.due("part at the empty row", x.part(0, 1, 3), 4);
        Due.due("word 3", Look.word(x, 3), "2 1 2 1");
        Due.due("part where it stands", x.part(3, Look.row("0"), 3), 2);
        Due.due("word 3", Look.word(x, 3), "1 3");
        x.put(4, 2, 1, -2, -1);
        Due.due("part of a way back", x.part(4, Look.row("1"), 5), 2);
        Due.due("word 5", Look.word(x, 5), "3 -1");
        x.wipe(4);
        x.put(4, 2, 2, 1, 3);
        Due.due("part at 10 letters", x.part(4, Look.row("1111111111"), 5), 2);
        Due.unchanged(x, "part(8, 4, 0)", () -> x.part(8, 4, 0), -1);
        Due.unchanged(x, "part(0, 4, 8)", () -> x.part(0, 4, 8), -1);
        Due.unchanged(x, "part(0, 4, -1)", () -> x.part(0, 4, -1), -1);
        Due.unchanged(x, "part(0, 6, 1)", () -> x.part(0, 6, 1), -1);
        Due.unchanged(x, "part(0, eleven letters, 1)", () -> x.part(0, 1 << 22, 1), -1);
        // At 1 the tokens become 3, 3, -3 and 3: a pair of these goes.
        SwitchTower y = Benches.of(2, new int[] {1, 2, 0, 2}, new int[] {0, 2, 1, 2}, new int[] {1, -1, 0, 2});
        y.put(0, 3, 1, -2, 3);
        Due.due("part that is reduced", y.part(0, Look.row("1"), 1), 2);
        Due.due("word 1", Look.word(y, 1), "3 3");
    }

    private static void rowsThatAreNone() {
        SwitchTower x = Benches.odometer(3);
        int[] none = {0, -1, 2, 3, 8, 15, 7, 19, 23, 28, 32, 1 << 22, Integer.MIN_VALUE, Integer.MAX_VALUE, 1 << 30,
            -4, 1 << 21, (1 << 22) - 1};
        for (int row : none) {
            Due.due("act(0, " + row + ")", x.act(0, row), -1);
            Due.due("part(0, " + row + ", 0)", x.part(0, row, 0), -1);
            Due.due("orbit(" + row + ")", x.orbit(row), -1);
            Due.due("reach(" + row + ")", x.reach(row), -1);
            Due.due("far(" + row + ", 1)", x.far(row, 1), -1);
            Due.due("far(1, " + row + ")", x.far(1, row), -1);
            Due.due("way(" + row + ", 1, 0)", x.way(row, 1, 0), 0);
        }
        int[] some = {1, 4, 6, 16, 26, Look.row("2222222222")};
        for (int row : some) {
            Due.due("act(0, " + row + ")", x.act(0, row), row);
        }
    }

    private static void sames() {
        SwitchTower x = Benches.grigorchuk();
        x.put(0, 2, 3, 0, 0);
        x.put(1, 4, 0, 0, 0);
        x.put(2, 3, 2, 0, 0);
        x.put(3, -4, 0, 0, 0);
        x.put(4, 1, 0, 0, 0);
        Due.due("b c is d", x.same(0, 1), 1);
        Due.due("b c is c b", x.same(0, 2), 1);
        Due.due("d is its way back", x.same(1, 3), 1);
        Due.due("a is not d", x.same(4, 1), 0);
        Due.due("a is a", x.same(4, 4), 1);
        Due.due("nothing is nothing", x.same(6, 7), 1);
        Due.due("a is not nothing", x.same(4, 7), 0);
        Due.due("same(8, 0)", x.same(8, 0), -1);
        Due.due("same(0, 8)", x.same(0, 8), -1);
        Due.due("same(-1, 0)", x.same(-1, 0), -1);
        // Eight times a d is nothing, four times is not, though it takes two letters to see.
        x.wipe(0);
        x.put(0, 1, 4, 1, 4);
        Due.due("a d a d is not nothing", x.same(0, 7), 0);
        x.times(0, 0, 0);
        Due.due("a d four times is nothing", x.same(0, 7), 1);
        x.wipe(0);
        x.put(0, 1, 3, 1, 3);
        x.times(0, 0, 0);
        Due.due("a c four times is not nothing", x.same(0, 7), 0);
        x.times(0, 0, 0);
        Due.due("a c eight times is nothing", x.same(0, 7), 1);
    }

    private static void aparts() {
        SwitchTower x = Benches.odometer(2);
        x.put(0, 1, 0, 0, 0);
        x.put(1, 1, 1, 0, 0);
        x.put(2, 1, 1, 1, 1);
        x.times(2, 2, 3);
        x.times(3, 3, 4);
        Due.due("1 and nothing", x.apart(0, 7), Look.row("0"));
        Due.due("2 and nothing", x.apart(1, 7), Look.row("00"));
        Due.due("4 and nothing", x.apart(2, 7), Look.row("000"));
        Due.due("8 and nothing", x.apart(3, 7), Look.row("0000"));
        Due.due("16 and nothing", x.apart(4, 7), Look.row("00000"));
        Due.due("16 and 8", x.apart(4, 3), Look.row("0000"));
        Due.due("8 and 8", x.apart(3, 3), -8);
        Due.due("apart(8, 0)", x.apart(8, 0), -1);
        Due.due("apart(0, -1)", x.apart(0, -1), -1);
        SwitchTower g = Benches.grigorchuk();
        g.put(0, 2, 0, 0, 0);
        g.put(1, 3, 0, 0, 0);
        g.put(2, 4, 0, 0, 0);
        // b and c part where the one is followed by c and the other by d: at 1, then 0.
        Due.due("b and c", g.apart(0, 1), Look.row("100"));
        Due.due("b and d", g.apart(0, 2), Look.row("00"));
        Due.due("c and nothing", g.apart(1, 7), Look.row("00"));
        Due.due("d and nothing", g.apart(2, 7), Look.row("100"));
        // The second letter shows it, but only behind a 2; then the least one, 1, is unlike.
        SwitchTower t = Benches.of(3, new int[] {0, -1, 1, -1, 2, 1}, new int[] {0, -1, 2, -1, 1, -1});
        t.put(0, 1, 0, 0, 0);
        Due.due("a late one", t.apart(0, 7), Look.row("21"));
    }

    /** STATE 0 adds one, but a carry waits for two letters at STATES 1 and 2. */
    private static SwitchTower slow() {
        return Benches.of(2, new int[] {1, -1, 0, 1}, new int[] {0, 2, 1, 2}, new int[] {0, 0, 1, 0});
    }

    private static void apartsFarDown() {
        SwitchTower x = slow();
        x.put(0, 1, 1, 1, 1);
        x.times(0, 0, 0);
        x.times(0, 0, 0);
        x.put(1, 3, 3, 3, 3);
        x.times(1, 1, 1);
        x.times(1, 1, 1);
        x.put(2, 2, 2, 2, 2);
        x.times(2, 2, 2);
        x.times(2, 2, 2);
        Due.due("at 13 letters", x.apart(0, 7), Look.row("0000000000000"));
        Due.due("at 14 letters", x.apart(1, 7), Look.row("00000000000000"));
        Due.due("at 15 letters: none is told", x.apart(2, 7), -8);
        Due.due("and yet they are unlike", x.same(2, 7), 0);
        Due.due("two that are parted late", x.apart(1, 2), Look.row("00000000000000"));
    }

    private static void heaps() {
        SwitchTower x = Benches.grigorchuk();
        Due.due("heap of nothing", x.heap(0), 1);
        x.put(0, 1, 0, 0, 0);
        Due.due("heap of a", x.heap(0), 2);
        x.put(1, 2, 0, 0, 0);
        // b, c, d, a, and the empty word.
        Due.due("heap of b", x.heap(1), 5);
        x.put(2, 1, -2, 0, 0);
        // a -b; at 0: -c; at 1: -a; then -d, -b, and the empty one.
        Due.due("heap of a -b", x.heap(2), 6);
        Due.due("heap(8)", x.heap(8), -1);
        Due.due("heap(-1)", x.heap(-1), -1);
        Due.due("least(8)", x.least(8), -1);
        Due.due("least(-1)", x.least(-1), -1);
    }

    /** Words whose heaps have just as many words as may be, or one more. */
    private static void heapEdge() {
        SwitchTower x = Benches.of(3, new int[] {0, 1, 2, 0, 0, -1}, new int[] {2, 1, 1, 0, 0, 0},
            new int[] {1, -1, 0, -1});
        x.put(0, 1, 2, 2, 2);
        x.put(0, 1, 1, 1, 2);
        x.put(0, 2, 2, 1, 2);
        x.put(0, 1, 2, 1, 2);
        Due.due("a heap of 200", x.heap(0), 200);
        Due.due("least of a heap of 200", x.least(0), 176);
        Due.due("same with a heap of 200", x.same(0, 0), 1);
        Due.due("same with a word of that heap", x.same(0, 7), 0);
        Due.check("a row that parts these", x.apart(0, 7) > 0);
        x.put(1, 3, 0, 0, 0);
        Due.due("heap of another one", x.heap(1), 2);
        Due.due("each has its heap, but both together are too many", x.same(0, 1), -7);
        Due.due("same, the other way round", x.same(1, 0), -7);
        Due.due("apart(0, 1)", x.apart(0, 1), -7);
        SwitchTower y = Benches.of(3, new int[] {2, -1, 0, 0, 1, 1}, new int[] {0, 1, 0, 1, 2, 0});
        y.put(0, 1, 2, 2, 2);
        y.put(0, 2, 2, 2, 1);
        y.put(0, 2, 1, 2, 2);
        y.put(0, 2, 1, 1, 2);
        Due.due("a heap of 201", y.heap(0), -7);
        Due.due("least of it", y.least(0), -7);
        Due.due("same with itself", y.same(0, 0), -7);
        Due.due("apart from itself", y.apart(0, 0), -7);
        Due.due("another call behind it", y.heap(5), 1);
    }

    private static void leasts() {
        SwitchTower x = Benches.grigorchuk();
        Due.due("least of nothing", x.least(0), 1);
        x.put(1, 2, 0, 0, 0);
        Due.due("least of b", x.least(1), 5);
        x.put(2, 2, 3, 4, 0);
        // b c d; at 0: a a; at 1: c d b, then d b c; all are nothing.
        Due.due("heap of b c d", x.heap(2), 5);
        Due.due("least of b c d", x.least(2), 1);
        SwitchTower e = Benches.eraser();
        e.put(0, 1, 0, 0, 0);
        e.put(1, 1, 1, 1, 0);
        Due.due("heap of one that never stops", e.heap(0), 1);
        Due.due("least of it", e.least(0), 1);
        Due.due("three times is once", e.same(0, 1), 1);
        SwitchTower o = Benches.odometer(2);
        o.put(0, 1, 1, 1, 1);
        Due.due("heap of 4", o.heap(0), 4);
        Due.due("least of 4", o.least(0), 4);
        SwitchTower s = slow();
        s.put(0, 2, 2, 2, 2);
        s.times(0, 0, 0);
        s.times(0, 0, 0);
        Due.due("heap of a slow one", s.heap(0), 16);
        Due.due("least of it: all are unlike, deep down", s.least(0), 16);
    }

    private static void notWhole() {
        SwitchTower x = Benches.of(2, new int[] {1, -1, 0, 1});
        x.put(0, 1, 0, 0, 0);
        x.put(1, 1, 1, 0, 0);
        Due.due("act", x.act(0, 4), -5);
        Due.due("act of the empty word on the empty row", x.act(7, 1), -5);
        Due.unchanged(x, "part", () -> x.part(1, 4, 0), -5);
        Due.due("same", x.same(0, 0), -5);
        Due.due("apart", x.apart(0, 1), -5);
        Due.due("heap", x.heap(7), -5);
        Due.due("least", x.least(7), -5);
        Due.due("act: NUMBER ahead of STATE", x.act(0, 0), -1);
        Due.due("act: NUMBER ahead of STATE", x.act(8, 4), -1);
        Due.due("part: NUMBER ahead of STATE", x.part(0, 4, 8), -1);
        Due.due("same: NUMBER ahead of STATE", x.same(0, 8), -1);
        Due.due("apart: NUMBER ahead of STATE", x.apart(8, 0), -1);
        Due.due("heap: NUMBER ahead of STATE", x.heap(8), -1);
        Due.due("least: NUMBER ahead of STATE", x.least(-1), -1);
        Due.due("times needs no whole machine", x.times(0, 1, 2), 3);
        x.sheet(0, 0, 0);
        x.state(0, 0);
        Due.due("act, whole at last", x.act(0, 4), 5);
    }
}
