/** Promises 30 to 34: growth, laws, law, fall, fallen. */
public final class ShortWordsTest {
    private ShortWordsTest() {
    }

    public static void main(String[] args) {
        growths();
        withinEdge();
        lawsInOrder();
        lawRefusals();
        falls();
        fallsWithAlikeTokens();
        fallEdge();
        fallenRefusals();
        notWhole();
        changesAreSeen();
        Due.end();
    }

    private static void growths() {
        SwitchTower o = Benches.odometer(2);
        for (int m = 0; m <= 5; m++) {
            Due.due("growth(" + m + ")", o.growth(m), 2 * m + 1);
            Due.due("laws(" + m + ")", o.laws(m), 0);
        }
        SwitchTower g = Benches.grigorchuk();
        Due.due("growth(0)", g.growth(0), 1);
        Due.due("growth(1)", g.growth(1), 5);
        Due.due("growth(2)", g.growth(2), 11);
        Due.due("growth(3)", g.growth(3), -7);
        Due.due("growth(2) again", g.growth(2), 11);
        SwitchTower e = Benches.eraser();
        // Once erased, only whether the first letter is turned then is seen: nothing, t, e, e t.
        Due.due("growth(1)", e.growth(1), 3);
        Due.due("growth(2)", e.growth(2), 4);
        Due.due("growth(4)", e.growth(4), 4);
        SwitchTower none = new SwitchTower();
        Due.due("growth(5) with no states", none.growth(5), 1);
        Due.due("laws(5) with no states", none.laws(5), 0);
        Due.due("growth(-1)", none.growth(-1), -1);
        Due.due("growth(6)", none.growth(6), -1);
        Due.due("laws(-1)", none.laws(-1), -1);
        Due.due("laws(6)", none.laws(6), -1);
    }

    /** With two BACK STATES 161 words have at most 4 TOKENS, with three 187 at most 3; then it is SPENT. */
    private static void withinEdge() {
        SwitchTower two = Benches.lamplighter();
        Due.check("growth(4) of two", two.growth(4) > 0);
        Due.due("growth(5) of two", two.growth(5), -7);
        Due.due("laws(5) of two", two.laws(5), -7);
        SwitchTower three = Benches.of(2, new int[] {}, new int[] {}, new int[] {});
        Due.due("growth(3) of three idlers", three.growth(3), 1);
        Due.due("laws(3) of three idlers", three.laws(3), 186);
        Due.due("laws(4) of three idlers", three.laws(4), -7);
        Due.due("law(3, 185, 0)", three.law(3, 185, 0), 3);
        Due.due("the last law", Look.word(three, 0), "-3 -3 -3");
        Due.due("law(3, 186, 0)", three.law(3, 186, 0), -8);
        // Three without a way back: 121 words of at most 4, 364 of at most 5.
        SwitchTower still = Benches.of(2, new int[] {0, -1, 0, -1}, new int[] {1, -1, 1, -1}, new int[] {0, 0, 0, 0});
        // Nothing, the first letter 0 or 1, all 0, and all 0 but the first.
        Due.due("growth(4) of three erasers", still.growth(4), 5);
        Due.due("growth(5) of three erasers", still.growth(5), -7);
    }

    private static void lawsInOrder() {
        SwitchTower g = Benches.grigorchuk();
        String[] laws = {"1 1", "-1 -1", "2 2", "-2 -2", "3 3", "-3 -3", "4 4", "-4 -4"};
        Due.due("laws(2)", g.laws(2), laws.length);
        for (int i = 0; i < laws.length; i++) {
            Due.due("law(2, " + i + ", 5)", g.law(2, i, 5), 2);
            Due.due("law " + i, Look.word(g, 5), laws[i]);
        }
        // STATE 0 does nothing, STATE 1 turns a letter: short laws stand ahead of long ones.
        SwitchTower x = Benches.of(2, new int[] {}, new int[] {1, -1, 0, -1});
        String[] mixed = {"1", "-1", "1 1", "-1 -1", "2 2", "-2 -2", "1 1 1", "1 2 2", "1 -2 -2", "-1 -1 -1",
            "-1 2 2", "-1 -2 -2", "2 1 2", "2 1 -2", "2 -1 2", "2 -1 -2", "2 2 1", "2 2 -1", "-2 1 2", "-2 1 -2",
            "-2 -1 2", "-2 -1 -2", "-2 -2 1", "-2 -2 -1"};
        Due.due("laws(1)", x.laws(1), 2);
        Due.due("laws(2)", x.laws(2), 6);
        Due.due("laws(3)", x.laws(3), mixed.length);
        for (int i = 0; i < mixed.length; i++) {
            x.law(3, i, 0);
            Due.due("law " + i + " of 3", Look.word(x, 0), mixed[i]);
        }
    }

    private static void lawRefusals() {
        SwitchTower g = Benches.grigorchuk();
        g.put(0, 1, 2, 0, 0);
        Due.unchanged(g, "law(2, 8, 0)", () -> g.law(2, 8, 0), -8);
        Due.unchanged(g, "law(2, -1, 0)", () -> g.law(2, -1, 0), -8);
        Due.unchanged(g, "law(2, greatest, 0)", () -> g.law(2, Integer.MAX_VALUE, 0), -8);
        Due.unchanged(g, "law(0, 0, 0)", () -> g.law(0, 0, 0), -8);
        Due.unchanged(g, "law(2, 0, 8)", () -> g.law(2, 0, 8), -1);
        Due.unchanged(g, "law(2, 0, -1)", () -> g.law(2, 0, -1), -1);
        Due.unchanged(g, "law(6, 0, 0)", () -> g.law(6, 0, 0), -1);
        Due.unchanged(g, "law(-1, 0, 0)", () -> g.law(-1, 0, 0), -1);
        Due.unchanged(g, "law(3, 0, 0)", () -> g.law(3, 0, 0), -7);
        Due.unchanged(g, "law(3, 0, 8): NUMBER ahead of SPENT", () -> g.law(3, 0, 8), -1);
        Due.unchanged(g, "law(3, -1, 0): SPENT ahead of NEVER", () -> g.law(3, -1, 0), -7);
    }

    private static void falls() {
        for (int d = 1; d <= 2; d++) {
            SwitchTower o = Benches.odometer(2);
            Due.due("fall(" + d + ")", o.fall(d), 3);
            String[] words = {"", "1", "-1"};
            for (int i = 0; i < 3; i++) {
                Due.due("fallen(" + d + ", " + i + ", 0)", o.fallen(d, i, 0), i == 0 ? 0 : 1);
                Due.due("fallen " + i, Look.word(o, 0), words[i]);
            }
            Due.unchanged(o, "fallen(" + d + ", 3, 0)", () -> o.fallen(2, 3, 0), -8);
            SwitchTower g = Benches.grigorchuk();
            Due.due("fall(" + d + ") of another one", g.fall(d), 9);
        }
        SwitchTower none = new SwitchTower();
        Due.due("fall(2) with no states", none.fall(2), 1);
        Due.due("fallen(2, 0, 0) with no states", none.fallen(2, 0, 0), 0);
        Due.due("fallen(2, 1, 0) with no states", none.fallen(2, 1, 0), -8);
    }

    /** The words of one TOKEN all begin the heap, alike or not; later ones come only if they are unlike. */
    private static void fallsWithAlikeTokens() {
        SwitchTower idle = Benches.of(2, new int[] {}, new int[] {}, new int[] {1, -1, 0, -1});
        Due.due("fall(1)", idle.fall(1), 7);
        String[] words = {"", "1", "-1", "2", "-2", "3", "-3"};
        for (int i = 0; i < 7; i++) {
            idle.fallen(1, i, 4);
            Due.due("fallen " + i, Look.word(idle, 4), words[i]);
        }
        SwitchTower eight = Benches.of(2, new int[][] {{}, {}, {}, {}, {}, {}, {}, {}});
        Due.due("fall(2) of sixteen tokens", eight.fall(2), 17);
        Due.due("fallen(2, 16, 0)", eight.fallen(2, 16, 0), 1);
        Due.due("token(0, 0)", eight.token(0, 0), -8);
    }

    private static void fallEdge() {
        SwitchTower a = Benches.of(3, new int[] {2, 0, 1, 0, 0, 1}, new int[] {2, 0, 0, 0, 1, 0});
        Due.due("a heap of 20", a.fall(1), 20);
        Due.check("its last word", a.fallen(1, 19, 0) > 1);
        Due.due("one behind its last word", a.fallen(1, 20, 0), -8);
        SwitchTower b = Benches.of(2, new int[] {1, 0, 0, 1}, new int[] {1, -1, 0, -1});
        Due.due("a heap of 21", b.fall(1), -7);
        SwitchTower c = Benches.of(4, new int[] {0, 1, 3, 1, 1, 1, 2, 0}, new int[] {2, 1, 0, 1, 3, 1, 1, 1});
        Due.due("a heap of 20 by depth 2", c.fall(2), 20);
        SwitchTower d = Benches.of(3, new int[] {1, 0, 2, 0, 0, 0}, new int[] {0, 0, 1, 1, 2, 0});
        Due.due("a heap of 21 by depth 2", d.fall(2), -7);
        SwitchTower e = Benches.of(2, new int[] {1, 2, 0, 3}, new int[] {0, 3, 1, 2}, new int[] {0, 3, 1, 3},
            new int[] {1, 2, 0, 0});
        Due.due("16 words whose parts are too many", e.fall(1), -7);
        // 1 to the power of n falls to itself at 0, and all are unlike: at last it has 17 TOKENS.
        SwitchTower f = Benches.of(4, new int[] {0, 0, 0, -1, 3, -1, 2, 0});
        Due.due("many(3)", f.many(3), 1);
        Due.due("words that grow too long", f.fall(1), -7);
        Due.due("words that grow too long, by depth 2", f.fall(2), -7);
        SwitchTower l = Benches.lamplighter();
        Due.due("the lamplighter does not fall", l.fall(1), -7);
    }

    private static void fallenRefusals() {
        SwitchTower g = Benches.grigorchuk();
        g.put(0, 1, 2, 0, 0);
        Due.unchanged(g, "fall(0)", () -> g.fall(0), -1);
        Due.unchanged(g, "fall(3)", () -> g.fall(3), -1);
        Due.unchanged(g, "fall(-1)", () -> g.fall(-1), -1);
        Due.unchanged(g, "fall(1)", () -> g.fall(1), 9);
        Due.unchanged(g, "fallen(0, 0, 0)", () -> g.fallen(0, 0, 0), -1);
        Due.unchanged(g, "fallen(3, 0, 0)", () -> g.fallen(3, 0, 0), -1);
        Due.unchanged(g, "fallen(1, 0, 8)", () -> g.fallen(1, 0, 8), -1);
        Due.unchanged(g, "fallen(1, 0, -1)", () -> g.fallen(1, 0, -1), -1);
        Due.unchanged(g, "fallen(1, -1, 0)", () -> g.fallen(1, -1, 0), -8);
        Due.unchanged(g, "fallen(1, 9, 0)", () -> g.fallen(1, 9, 0), -8);
        SwitchTower l = Benches.lamplighter();
        l.put(0, 1, 2, 0, 0);
        Due.unchanged(l, "fallen(1, 0, 0)", () -> l.fallen(1, 0, 0), -7);
        Due.unchanged(l, "fallen(1, -1, 0): SPENT ahead of NEVER", () -> l.fallen(1, -1, 0), -7);
        Due.unchanged(l, "fallen(1, 0, 8): NUMBER ahead of SPENT", () -> l.fallen(1, 0, 8), -1);
    }

    private static void notWhole() {
        SwitchTower x = Benches.of(2, new int[] {1, -1, 0, 5});
        x.put(0, 1, 0, 0, 0);
        Due.unchanged(x, "growth(0)", () -> x.growth(0), -5);
        Due.unchanged(x, "laws(5)", () -> x.laws(5), -5);
        Due.unchanged(x, "law(1, -1, 0)", () -> x.law(1, -1, 0), -5);
        Due.unchanged(x, "fall(1)", () -> x.fall(1), -5);
        Due.unchanged(x, "fallen(2, 99, 0)", () -> x.fallen(2, 99, 0), -5);
        Due.due("growth: NUMBER ahead of STATE", x.growth(6), -1);
        Due.due("laws: NUMBER ahead of STATE", x.laws(-1), -1);
        Due.due("law: NUMBER ahead of STATE", x.law(6, 0, 0), -1);
        Due.due("law: NUMBER ahead of STATE", x.law(1, 0, 8), -1);
        Due.due("fall: NUMBER ahead of STATE", x.fall(3), -1);
        Due.due("fallen: NUMBER ahead of STATE", x.fallen(0, 0, 0), -1);
        Due.due("fallen: NUMBER ahead of STATE", x.fallen(1, 0, 8), -1);
    }

    /** What is kept from call to call must not outlive the STATES from which it was made. */
    private static void changesAreSeen() {
        SwitchTower x = Benches.odometer(2);
        Due.due("growth(4)", x.growth(4), 9);
        x.change(0, 1, 0, -1);
        Due.due("growth(4) without a carry", x.growth(4), 2);
        Due.due("laws(4)", x.laws(4), 4);
        Due.due("fall(1)", x.fall(1), 3);
        x.sheet(0, 0, 0);
        x.state(0, 0);
        Due.due("fall(1) with two", x.fall(1), 5);
        Due.due("laws(1) with two", x.laws(1), 2);
        Due.due("fall(2) between", x.fall(2), 5);
        Due.due("laws(2) with two", x.laws(2), 6);
        x.letters(2);
        Due.due("laws(2) with none", x.laws(2), 0);
        Due.due("fall(2) with none", x.fall(2), 1);
    }
}
