/** Promises 1 to 10: a new object, sheet, cell, told, lose, letters, state, change, of, many. */
public final class SheetsAndStatesTest {
    private static final int NONE = Integer.MIN_VALUE;

    private SheetsAndStatesTest() {
    }

    public static void main(String[] args) {
        newObject();
        constants();
        sheets();
        cells();
        loses();
        letters();
        states();
        stateRefusals();
        changes();
        changesEmptyWords();
        backs();
        many();
        Due.end();
    }

    private static void newObject() {
        SwitchTower x = new SwitchTower();
        Due.due("many(0)", x.many(0), 2);
        Due.due("many(1)", x.many(1), 0);
        Due.due("many(2)", x.many(2), 1);
        Due.due("many(3)", x.many(3), 0);
        for (int r = -1; r <= 4; r++) {
            Due.due("told(" + r + ", 0)", x.told(r, 0), NONE);
        }
        for (int spot = 0; spot < 8; spot++) {
            Due.due("size(" + spot + ")", x.size(spot), 0);
            Due.due("token(" + spot + ", 0)", x.token(spot, 0), 0);
        }
        Due.due("of(0, 0, 2)", x.of(0, 0, 2), -2);
        Due.due("act(0, 16)", x.act(0, 16), 16);
        Due.due("growth(5)", x.growth(5), 1);
        Due.due("fall(1)", x.fall(1), 1);
        Due.due("group(4)", x.group(4), 1);
        Due.due("orbits(8)", x.orbits(8), 256);
        Due.due("sheets of another object", new SwitchTower().told(0, 0), NONE);
    }

    private static void constants() {
        Due.due("NUMBER", SwitchTower.NUMBER, -1);
        Due.due("FULL", SwitchTower.FULL, -2);
        Due.due("MISSING", SwitchTower.MISSING, -3);
        Due.due("SIZE", SwitchTower.SIZE, -4);
        Due.due("STATE", SwitchTower.STATE, -5);
        Due.due("KIND", SwitchTower.KIND, -6);
        Due.due("SPENT", SwitchTower.SPENT, -7);
        Due.due("NEVER", SwitchTower.NEVER, -8);
    }

    private static void sheets() {
        SwitchTower x = new SwitchTower();
        Due.due("sheet(0, 0, 0)", x.sheet(0, 0, 0), 1);
        Due.due("told(0, 0)", x.told(0, 0), NONE);
        Due.due("cell(0, 0, 1)", x.cell(0, 0, 1), -1);
        Due.due("sheet(3, 2, 40)", x.sheet(3, 2, 40), 1);
        Due.due("told(3, 39)", x.told(3, 39), 0);
        Due.due("told(3, 40)", x.told(3, 40), NONE);
        x.cell(3, 5, 77);
        Due.due("told(3, 5)", x.told(3, 5), 77);
        Due.due("sheet(3, 1, 6) anew", x.sheet(3, 1, 6), 1);
        Due.due("told(3, 5) of the new one", x.told(3, 5), 0);
        Due.due("told(3, 6) of the new one", x.told(3, 6), NONE);
        x.cell(3, 5, 78);
        Due.unchanged(x, "sheet(4, 0, 1)", () -> x.sheet(4, 0, 1), -1);
        Due.unchanged(x, "sheet(-1, 0, 1)", () -> x.sheet(-1, 0, 1), -1);
        Due.unchanged(x, "sheet(3, 3, 1)", () -> x.sheet(3, 3, 1), -1);
        Due.unchanged(x, "sheet(3, -1, 1)", () -> x.sheet(3, -1, 1), -1);
        Due.unchanged(x, "sheet(3, 3, -1)", () -> x.sheet(3, 3, -1), -1);
        Due.unchanged(x, "sheet(3, 0, -1)", () -> x.sheet(3, 0, -1), -4);
        Due.unchanged(x, "sheet(3, 0, least)", () -> x.sheet(3, 0, NONE), -4);
        Due.unchanged(x, "sheet(3, 0, 41)", () -> x.sheet(3, 0, 41), -1);
        Due.unchanged(x, "sheet(1, 0, greatest)", () -> x.sheet(1, 0, Integer.MAX_VALUE), -1);
    }

    private static void cells() {
        SwitchTower x = new SwitchTower();
        int[] values = {0, 1, -1, 127, 128, 255, 256, -129, 32767, 32768, 65535, 65537, -32769, NONE,
            Integer.MAX_VALUE};
        x.sheet(0, 0, 2);
        x.sheet(1, 1, 2);
        x.sheet(2, 2, 2);
        for (int v : values) {
            for (int r = 0; r < 3; r++) {
                Due.due("cell(" + r + ", 1, " + v + ")", x.cell(r, 1, v), 1);
            }
            Due.due("told byte " + v, x.told(0, 1), (byte) v);
            Due.due("told short " + v, x.told(1, 1), (short) v);
            Due.due("told int " + v, x.told(2, 1), v);
            Due.due("told its neighbour", x.told(2, 0), 0);
        }
        x.cell(2, 1, 5);
        Due.unchanged(x, "cell(4, 0, 1)", () -> x.cell(4, 0, 1), -1);
        Due.unchanged(x, "cell(-1, 0, 1)", () -> x.cell(-1, 0, 1), -1);
        Due.unchanged(x, "cell(3, 0, 1)", () -> x.cell(3, 0, 1), -3);
        Due.unchanged(x, "cell(3, -1, 1)", () -> x.cell(3, -1, 1), -3);
        Due.unchanged(x, "cell(2, -1, 1)", () -> x.cell(2, -1, 1), -1);
        Due.unchanged(x, "cell(2, 2, 1)", () -> x.cell(2, 2, 1), -1);
        Due.unchanged(x, "cell(2, greatest, 1)", () -> x.cell(2, Integer.MAX_VALUE, 1), -1);
        Due.due("told(-1, 0)", x.told(-1, 0), NONE);
        Due.due("told(4, 0)", x.told(4, 0), NONE);
        Due.due("told(3, 0)", x.told(3, 0), NONE);
        Due.due("told(2, -1)", x.told(2, -1), NONE);
        Due.due("told(2, 2)", x.told(2, 2), NONE);
    }

    private static void loses() {
        SwitchTower x = new SwitchTower();
        x.sheet(1, 2, 3);
        x.sheet(2, 2, 3);
        x.cell(1, 0, 9);
        Due.unchanged(x, "lose(-1)", () -> x.lose(-1), -1);
        Due.unchanged(x, "lose(4)", () -> x.lose(4), -1);
        Due.unchanged(x, "lose(0)", () -> x.lose(0), -3);
        Due.due("lose(1)", x.lose(1), 1);
        Due.due("told(1, 0) of a lost one", x.told(1, 0), NONE);
        Due.due("told(2, 0) of another one", x.told(2, 0), 0);
        Due.due("lose(1) again", x.lose(1), -3);
        x.sheet(1, 2, 3);
        Due.due("told(1, 0) of one laid anew", x.told(1, 0), 0);
    }

    private static void letters() {
        SwitchTower x = Benches.odometer(2);
        x.sheet(2, 0, 4);
        x.cell(2, 3, 7);
        x.put(5, 1, 1, 0, 0);
        Due.unchanged(x, "letters(1)", () -> x.letters(1), -1);
        Due.unchanged(x, "letters(5)", () -> x.letters(5), -1);
        Due.unchanged(x, "letters(least)", () -> x.letters(NONE), -1);
        Due.due("size(5)", x.size(5), 2);
        for (int k = 2; k <= 4; k++) {
            Due.due("letters(" + k + ")", x.letters(k), 1);
            Due.due("many(0)", x.many(0), k);
            Due.due("many(1)", x.many(1), 0);
            Due.due("many(2)", x.many(2), 1);
            Due.due("many(3)", x.many(3), 0);
            Due.due("size(5)", x.size(5), 0);
            Due.due("told(2, 3)", x.told(2, 3), 7);
        }
        Due.due("letters(4) again", x.letters(4), 1);
        Due.due("act(0, 7)", x.act(0, 7), 7);
        x.letters(3);
        Due.due("act(0, 7) with three", x.act(0, 7), -1);
        x.sheet(0, 0, 0);
        Due.due("state behind letters", x.state(0, 0), 0);
    }

    private static void states() {
        SwitchTower x = new SwitchTower();
        x.letters(3);
        x.sheet(0, 1, 7);
        int[] numbers = {9, 2, 0, 0, 7, 1, -1};
        for (int i = 0; i < numbers.length; i++) {
            x.cell(0, i, numbers[i]);
        }
        Due.due("state(0, 1)", x.state(0, 1), 0);
        Due.due("writes 0", x.of(0, 0, 0), 2);
        Due.due("goes 0", x.of(0, 0, 1), 0);
        Due.due("writes 1", x.of(0, 1, 0), 0);
        Due.due("goes 1", x.of(0, 1, 1), 7);
        Due.due("writes 2", x.of(0, 2, 0), 1);
        Due.due("goes 2", x.of(0, 2, 1), -1);
        Due.due("state(0, 5): a second letter has but one number", x.state(0, 5), 1);
        Due.due("writes 0 of it", x.of(1, 0, 0), 1);
        Due.due("goes 0 of it", x.of(1, 0, 1), -1);
        Due.due("writes 1 of it", x.of(1, 1, 0), 1);
        Due.due("goes 1 of it", x.of(1, 1, 1), -1);
        Due.due("state(0, 6): no pair", x.state(0, 6), 2);
        Due.due("writes 0 of the third", x.of(2, 0, 0), 0);
        Due.due("state(0, 7)", x.state(0, 7), 3);
        Due.due("state(0, greatest)", x.state(0, Integer.MAX_VALUE), 4);
        Due.due("state(0, near greatest)", x.state(0, Integer.MAX_VALUE - 4), 5);
        for (int letter = 0; letter < 3; letter++) {
            Due.due("writes of none told", x.of(5, letter, 0), letter);
            Due.due("goes of none told", x.of(5, letter, 1), -1);
        }
        x.sheet(1, 2, 40);
        for (int i = 0; i < 40; i++) {
            x.cell(1, i, i >= 10 && i < 16 ? i % 2 : -99);
        }
        Due.due("state(1, 10): wrong numbers around it are not its own", x.state(1, 10), 6);
        Due.due("state(1, 9)", x.state(1, 9), -1);
        Due.due("state(1, 11)", x.state(1, 11), -1);
        x.cell(0, 1, 1);
        Due.due("a state keeps what it read", x.of(0, 0, 0), 2);
        x.lose(0);
        Due.due("a state outlives its sheet", x.of(0, 0, 0), 2);
    }

    private static void stateRefusals() {
        SwitchTower x = new SwitchTower();
        x.sheet(0, 2, 4);
        x.cell(0, 0, 1);
        x.cell(0, 1, -1);
        Due.unchanged(x, "state(-1, 0)", () -> x.state(-1, 0), -1);
        Due.unchanged(x, "state(4, 0)", () -> x.state(4, 0), -1);
        Due.unchanged(x, "state(0, -1)", () -> x.state(0, -1), -1);
        Due.unchanged(x, "state(1, -1) of a missing one", () -> x.state(1, -1), -1);
        Due.unchanged(x, "state(1, 0)", () -> x.state(1, 0), -3);
        int[][] faults = {{0, -1}, {0, 2}, {2, 2}, {2, -1}, {1, -2}, {1, 8}, {3, 8}, {3, -2}};
        for (int[] fault : faults) {
            int kept = x.told(0, fault[0]);
            x.cell(0, fault[0], fault[1]);
            Due.unchanged(x, "state with " + fault[1] + " at " + fault[0], () -> x.state(0, 0), -1);
            x.cell(0, fault[0], kept);
        }
        x.cell(0, 1, 7);
        x.cell(0, 3, -1);
        for (int s = 0; s < 8; s++) {
            Due.due("state " + s, x.state(0, 0), s);
            Due.due("goes of " + s, x.of(s, 0, 1), 7);
        }
        Due.unchanged(x, "a ninth state", () -> x.state(0, 0), -2);
        Due.unchanged(x, "a ninth state of a missing sheet", () -> x.state(1, 0), -3);
        x.cell(0, 1, 8);
        Due.unchanged(x, "a ninth state that goes nowhere", () -> x.state(0, 0), -1);
    }

    private static void changes() {
        SwitchTower x = Benches.of(3, new int[] {1, -1, 2, -1, 0, 0}, new int[] {});
        Due.due("change(1, 2, 0, 7)", x.change(1, 2, 0, 7), 1);
        Due.due("of(1, 2, 0)", x.of(1, 2, 0), 0);
        Due.due("of(1, 2, 1)", x.of(1, 2, 1), 7);
        Due.due("of(1, 1, 0)", x.of(1, 1, 0), 1);
        Due.due("of(0, 2, 1)", x.of(0, 2, 1), 0);
        Due.due("many(2)", x.many(2), 0);
        Due.due("change(1, 2, 2, -1)", x.change(1, 2, 2, -1), 1);
        Due.due("many(2)", x.many(2), 1);
        int[][] wrong = {{-1, 0, 0, 0}, {2, 0, 0, 0}, {0, -1, 0, 0}, {0, 3, 0, 0}, {0, 0, -1, 0}, {0, 0, 3, 0},
            {0, 0, 0, -2}, {0, 0, 0, 8}, {8, 0, 0, 0}, {0, Integer.MAX_VALUE, 0, 0}};
        for (int[] w : wrong) {
            Due.unchanged(x, "change(" + w[0] + ", " + w[1] + ", " + w[2] + ", " + w[3] + ")",
                () -> x.change(w[0], w[1], w[2], w[3]), -1);
        }
        x.put(0, 1, 0, 0, 0);
        Due.due("act(0, 27)", x.act(0, 27), -1);
        Due.due("act(0, 26)", x.act(0, 26), 16);
        x.change(0, 2, 0, -1);
        Due.due("act(0, 26) behind a change", x.act(0, 26), 18);
        Due.due("order(0, 2) behind a change", x.order(0, 2), 3);
        x.change(0, 2, 0, 0);
        Due.due("order(0, 2) changed again", x.order(0, 2), 9);
    }

    /** STATE 0 goes to 1, 1 to IDLE, 2 to IDLE: a change of 1 takes the ways back of 0 and 1, not of 2. */
    private static void changesEmptyWords() {
        SwitchTower x = Benches.of(2, new int[] {0, 1, 1, -1}, new int[] {1, -1, 0, -1},
            new int[] {1, -1, 0, -1});
        x.put(0, -1, 0, 0, 0);
        x.put(1, 3, 1, -2, 3);
        x.put(2, 1, 2, 3, -3);
        x.put(3, -3, -3, 1, 0);
        Due.due("change(0, 0, 0, 2)", x.change(0, 0, 0, 2), 1);
        Due.due("nothing is lost while all are back", Look.word(x, 1), "3 1 -2 3");
        x.change(0, 0, 0, 1);
        Due.due("change(1, 0, 0, -1)", x.change(1, 0, 0, -1), 1);
        Due.due("word 0", Look.word(x, 0), "");
        Due.due("word 1", Look.word(x, 1), "");
        Due.due("word 2", Look.word(x, 2), "1 2");
        Due.due("word 3", Look.word(x, 3), "-3 -3 1");
        x.change(1, 0, 1, -1);
        Due.due("a lost word stays lost", x.size(0), 0);
        x.put(0, -1, 0, 0, 0);
        Due.due("change to a state that is not there", x.change(1, 1, 0, 5), 1);
        Due.due("word 0 is lost again", x.size(0), 0);
        Due.due("word 3 stands", x.size(3), 3);
        x.put(4, -3, 0, 0, 0);
        Due.unchanged(x, "a refused change", () -> x.change(2, 0, 0, 9), -1);
        Due.due("a refused change takes no word", x.size(4), 1);
    }

    private static void backs() {
        SwitchTower x = Benches.of(2, new int[] {0, 1, 1, 0}, new int[] {0, 2, 1, 1}, new int[] {1, 0, 0, 3});
        Due.due("of(0, 0, 2), 3 is not there", x.of(0, 0, 2), 0);
        Due.due("of(2, 0, 2)", x.of(2, 0, 2), 0);
        Due.due("many(3)", x.many(3), 3);
        x.sheet(0, 0, 0);
        x.state(0, 0);
        Due.due("of(0, 0, 2), 3 is there", x.of(0, 0, 2), 1);
        Due.due("many(3)", x.many(3), 8);
        x.change(3, 0, 1, -1);
        for (int s = 0; s < 4; s++) {
            Due.due("of(" + s + ", 0, 2), 3 writes 1 twice", x.of(s, 0, 2), 0);
        }
        x.change(2, 1, 0, -1);
        Due.due("of(0, 99, 2), 3 is not come to", x.of(0, 99, 2), 1);
        Due.due("of(3, -1, 2)", x.of(3, -1, 2), 0);
        Due.due("many(3)", x.many(3), 7);
        Due.due("of(0, 0, 3)", x.of(0, 0, 3), -2);
        Due.due("of(0, 0, -1)", x.of(0, 0, -1), -2);
        Due.due("of(4, 0, 0)", x.of(4, 0, 0), -2);
        Due.due("of(4, 0, 2)", x.of(4, 0, 2), -2);
        Due.due("of(-1, 0, 1)", x.of(-1, 0, 1), -2);
        Due.due("of(0, 2, 0)", x.of(0, 2, 0), -2);
        Due.due("of(0, -1, 1)", x.of(0, -1, 1), -2);
        Due.due("of(0, 1, 1)", x.of(0, 1, 1), 0);
    }

    private static void many() {
        SwitchTower x = Benches.grigorchuk();
        Due.due("many(0)", x.many(0), 2);
        Due.due("many(1)", x.many(1), 4);
        Due.due("many(2)", x.many(2), 1);
        Due.due("many(3)", x.many(3), 8);
        Due.due("many(4)", x.many(4), -1);
        Due.due("many(-1)", x.many(-1), -1);
        x.change(0, 0, 0, 4);
        Due.due("many(2)", x.many(2), 0);
        Due.due("many(3), only the others lead to 0", x.many(3), 4);
        SwitchTower mixed = Benches.eraser();
        Due.due("many(3), one has no way back", mixed.many(3), 3);
    }
}
