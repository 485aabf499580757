/** Promises 23 to 29: order, orbits, orbit, far, way, reach, group. */
public final class LevelsTest {
    private LevelsTest() {
    }

    public static void main(String[] args) {
        orders();
        orderRefusals();
        orbits();
        orbitsOfRows();
        distances();
        ways();
        reaches();
        groups();
        groupEdge();
        refusals();
        notWhole();
        changesAreSeen();
        Due.end();
    }

    private static void orders() {
        int[] deepest = {0, 0, 8, 5, 4};
        for (int k = 2; k <= 4; k++) {
            SwitchTower x = Benches.odometer(k);
            x.put(0, 1, 0, 0, 0);
            x.put(1, -1, -1, 0, 0);
            int rows = 1;
            for (int n = 0; n <= deepest[k]; n++) {
                Due.due("order(0, " + n + ") of " + k, x.order(0, n), rows);
                Due.due("order(1, " + n + ") of " + k, x.order(1, n), rows % 2 == 0 ? rows / 2 : rows);
                Due.due("order of nothing", x.order(7, n), 1);
                rows *= k;
            }
            Due.due("order beyond the last level of " + k, x.order(0, deepest[k] + 1), -1);
        }
        // Rings of 2 rows, and of 3 rows, none of 6.
        SwitchTower x = Benches.of(4, new int[] {1, -1, 0, -1, 2, 1, 3, 1}, new int[] {1, -1, 2, -1, 0, -1});
        x.put(0, 1, 0, 0, 0);
        Due.due("order at 1", x.order(0, 1), 2);
        Due.due("order at 2", x.order(0, 2), 6);
        SwitchTower g = Benches.grigorchuk();
        g.put(0, 1, 3, 0, 0);
        int[] due = {1, 2, 4, 4, 8, 8, 8, 8, 8};
        for (int n = 0; n <= 8; n++) {
            Due.due("order of a c at " + n, g.order(0, n), due[n]);
        }
    }

    private static void orderRefusals() {
        SwitchTower x = Benches.eraser();
        x.put(0, 2, 1, 0, 0);
        x.put(1, 2, 0, 0, 0);
        Due.due("order(0, 0): KIND even where there is nothing to change", x.order(0, 0), -6);
        Due.due("order(0, 3)", x.order(0, 3), -6);
        Due.due("order(1, 3)", x.order(1, 3), 2);
        Due.due("order(8, 0)", x.order(8, 0), -1);
        Due.due("order(-1, 0)", x.order(-1, 0), -1);
        Due.due("order(0, -1)", x.order(0, -1), -1);
        Due.due("order(0, 9): NUMBER ahead of KIND", x.order(0, 9), -1);
        Due.due("order(1, greatest)", x.order(1, Integer.MAX_VALUE), -1);
    }

    private static void orbits() {
        SwitchTower g = Benches.grigorchuk();
        for (int n = 0; n <= 8; n++) {
            Due.due("orbits(" + n + ")", g.orbits(n), 1);
        }
        SwitchTower x = Benches.eraser();
        Due.due("orbits(0)", x.orbits(0), 1);
        Due.due("orbits(1), by the turn of the first letter alone", x.orbits(1), 1);
        Due.due("orbits(3)", x.orbits(3), 4);
        Due.due("orbits(8)", x.orbits(8), 128);
        SwitchTower idle = new SwitchTower();
        idle.letters(4);
        Due.due("orbits(4) with no states", idle.orbits(4), 256);
        // A ring of three letters, and one that stands: rings of rows hang on where the first 3 stands.
        SwitchTower t = Benches.of(4, new int[] {1, 0, 2, 0, 0, 0, 3, 0});
        Due.due("orbits(1)", t.orbits(1), 2);
        Due.due("orbits(2)", t.orbits(2), 6);
    }

    private static void orbitsOfRows() {
        SwitchTower x = Benches.eraser();
        Due.due("orbit 000", x.orbit(Look.row("000")), 4);
        Due.due("orbit 111", x.orbit(Look.row("111")), 2);
        Due.due("orbit 011", x.orbit(Look.row("011")), 2);
        Due.due("orbit of the empty row", x.orbit(1), 1);
        SwitchTower o = Benches.odometer(3);
        Due.due("orbit of 243", o.orbit(Look.row("00000")), 243);
        Due.due("orbit of 3", o.orbit(Look.row("2")), 3);
        SwitchTower none = new SwitchTower();
        Due.due("orbit with no states", none.orbit(Look.row("0101")), 1);
        SwitchTower two = Benches.odometer(2);
        Due.due("orbit of 256", two.orbit(Look.row("00000000")), 256);
        Due.due("orbit of nine letters", two.orbit(Look.row("000000000")), -1);
    }

    private static void distances() {
        SwitchTower x = Benches.eraser();
        Due.due("far 000 000", x.far(Look.row("000"), Look.row("000")), 0);
        Due.due("far 000 111", x.far(Look.row("000"), Look.row("111")), 1);
        Due.due("far 000 011", x.far(Look.row("000"), Look.row("011")), 2);
        Due.due("far 111 000", x.far(Look.row("111"), Look.row("000")), -8);
        Due.due("far 1 1", x.far(1, 1), 0);
        SwitchTower o = Benches.odometer(2);
        int[] due = {0, 1, 2, 3, 4, 3, 2, 1};
        String[] rows = {"000", "100", "010", "110", "001", "101", "011", "111"};
        for (int i = 0; i < 8; i++) {
            Due.due("far 000 " + rows[i], o.far(Look.row("000"), Look.row(rows[i])), due[i]);
        }
        Due.due("far to another level", o.far(Look.row("000"), Look.row("00")), -1);
        Due.due("far to a number that is no row", o.far(Look.row("000"), 2 * Look.row("000")), -1);
        Due.due("far to a letter that is none", o.far(Look.row("000"), Look.row("002")), -1);
        Due.due("far of nine letters", o.far(Look.row("000000000"), Look.row("000000000")), -1);
        Due.due("far at 256 rows", o.far(Look.row("00000000"), Look.row("00000001")), 128);
    }

    private static void ways() {
        SwitchTower x = Benches.eraser();
        Due.due("way 000 011", way(x, "000", "011"), "1 2");
        Due.due("way 000 100", way(x, "000", "100"), "2");
        Due.due("way 111 000", way(x, "111", "000"), "");
        Due.due("way 000 000", way(x, "000", "000"), "");
        Due.due("way, TOKEN -1", x.way(Look.row("000"), Look.row("011"), -1), 0);
        Due.due("way, TOKEN 2", x.way(Look.row("000"), Look.row("011"), 2), 0);
        Due.due("way, a late TOKEN", x.way(Look.row("000"), Look.row("011"), Integer.MAX_VALUE), 0);
        Due.due("way to another level", x.way(Look.row("000"), Look.row("11"), 0), 0);
        SwitchTower o = Benches.odometer(2);
        Due.due("way to 3", way(o, "000", "110"), "1 1 1");
        Due.due("way to 4, of two that are as long", way(o, "000", "001"), "1 1 1 1");
        Due.due("way to 5", way(o, "000", "101"), "-1 -1 -1");
        // Both STATES lead to the same rows: the first of them is taken.
        SwitchTower twins = Benches.of(3, new int[] {1, -1, 2, -1, 0, -1}, new int[] {1, -1, 2, -1, 0, -1});
        Due.due("way 0 1", way(twins, "0", "1"), "1");
        Due.due("way 0 2", way(twins, "0", "2"), "-1");
        SwitchTower g = Benches.grigorchuk();
        // a leads to 10, d and then a lead nowhere else; b turns the second letter behind 0.
        Due.due("way 00 01", way(g, "00", "01"), "2");
        Due.due("way 00 11", way(g, "00", "11"), "2 1");
        Due.due("way 10 11", way(g, "10", "11"), "1 2 1");
    }

    private static void reaches() {
        SwitchTower o = Benches.odometer(2);
        Due.due("reach 000", o.reach(Look.row("000")), 4);
        Due.due("reach of the empty row", o.reach(1), 0);
        Due.due("reach at 256 rows", o.reach(Look.row("10101010")), 128);
        SwitchTower three = Benches.odometer(3);
        Due.due("reach 00 of three", three.reach(Look.row("00")), 4);
        SwitchTower x = Benches.eraser();
        Due.due("reach 000", x.reach(Look.row("000")), 2);
        Due.due("reach 111", x.reach(Look.row("111")), 1);
        Due.due("reach with no states", new SwitchTower().reach(Look.row("01")), 0);
        SwitchTower g = Benches.grigorchuk();
        Due.due("reach 0000", g.reach(Look.row("0000")), 10);
    }

    private static void groups() {
        SwitchTower g = Benches.grigorchuk();
        int[] due = {1, 2, 8, 128, -7};
        for (int n = 0; n <= 4; n++) {
            Due.due("group(" + n + ")", g.group(n), due[n]);
        }
        Due.due("group(3) again", g.group(3), 128);
        Due.due("group(5)", g.group(5), -1);
        Due.due("group(-1)", g.group(-1), -1);
        SwitchTower x = Benches.eraser();
        Due.due("group of BACK STATES alone", x.group(4), 2);
        SwitchTower three = Benches.odometer(3);
        Due.due("group(2) of three", three.group(2), 9);
        Due.due("group(3) of three", three.group(3), -1);
        SwitchTower four = Benches.odometer(4);
        Due.due("group(2) of four", four.group(2), 16);
        Due.due("group(3) of four", four.group(3), -1);
        SwitchTower all = Benches.of(4, new int[] {1, -1, 2, -1, 3, -1, 0, -1}, new int[] {1, -1, 0, -1});
        Due.due("all ways to stand of four letters", all.group(1), 24);
        Due.due("group with no states", new SwitchTower().group(4), 1);
    }

    private static void groupEdge() {
        SwitchTower a = Benches.of(2, new int[] {0, 1, 1, 1}, new int[] {1, -1, 0, 0}, new int[] {0, 2, 1, 1});
        Due.due("a group of 2048", a.group(4), 2048);
        SwitchTower b = Benches.of(4, new int[] {0, 1, 3, 2, 2, 1, 1, 1}, new int[] {0, 0, 1, 0, 2, 0, 3, 2},
            new int[] {0, 1, 2, 0, 1, 1, 3, 2});
        Due.due("a group of 2592", b.group(2), 2592);
        SwitchTower c = Benches.of(4, new int[] {2, 0, 3, 1, 1, 0, 0, 1}, new int[] {1, 0, 2, 0, 3, 1, 0, 1});
        Due.due("a group of 3072", c.group(2), -7);
        Due.due("its lower level", c.group(1) > 0 ? 1 : 0, 1);
    }

    private static void refusals() {
        SwitchTower x = Benches.odometer(2);
        Due.due("orbits(-1)", x.orbits(-1), -1);
        Due.due("orbits(9)", x.orbits(9), -1);
        Due.due("orbits(greatest)", x.orbits(Integer.MAX_VALUE), -1);
        Due.due("group(greatest)", x.group(Integer.MAX_VALUE), -1);
        Due.due("orbit(2)", x.orbit(2), -1);
        Due.due("reach(6)", x.reach(6), -1);
        Due.due("reach of nine letters", x.reach(Look.row("000000000")), -1);
        SwitchTower three = Benches.odometer(3);
        Due.due("orbits(5)", three.orbits(5), 1);
        Due.due("orbits(6)", three.orbits(6), -1);
        Due.due("orbit of six of three letters", three.orbit(Look.row("000000")), -1);
        SwitchTower four = Benches.odometer(4);
        Due.due("orbits(4)", four.orbits(4), 1);
        Due.due("orbits(5)", four.orbits(5), -1);
        Due.due("reach of five of four letters", four.reach(Look.row("00000")), -1);
    }

    private static void notWhole() {
        SwitchTower x = Benches.of(2, new int[] {1, -1, 0, 5}, new int[] {1, -1, 1, -1});
        x.put(0, 1, 0, 0, 0);
        Due.due("order: STATE ahead of KIND", x.order(0, 0), -5);
        Due.due("order of nothing", x.order(7, 8), -5);
        Due.due("orbits", x.orbits(0), -5);
        Due.due("orbit", x.orbit(1), -5);
        Due.due("far", x.far(1, 1), -5);
        Due.due("way", x.way(Look.row("0"), Look.row("1"), 0), 0);
        Due.due("reach", x.reach(Look.row("01")), -5);
        Due.due("group", x.group(4), -5);
        Due.due("order: NUMBER ahead of STATE", x.order(0, 9), -1);
        Due.due("orbits: NUMBER ahead of STATE", x.orbits(9), -1);
        Due.due("orbit: NUMBER ahead of STATE", x.orbit(0), -1);
        Due.due("far: NUMBER ahead of STATE", x.far(1, 4), -1);
        Due.due("reach: NUMBER ahead of STATE", x.reach(0), -1);
        Due.due("group: NUMBER ahead of STATE", x.group(5), -1);
    }

    /** What is kept from call to call must not outlive the STATES from which it was made. */
    private static void changesAreSeen() {
        SwitchTower x = Benches.odometer(2);
        Due.due("orbits(3)", x.orbits(3), 1);
        Due.due("group(3)", x.group(3), 8);
        x.change(0, 1, 0, -1);
        Due.due("orbits(3) without a carry", x.orbits(3), 4);
        Due.due("group(3) without a carry", x.group(3), 2);
        Due.due("reach 000 without a carry", x.reach(Look.row("000")), 1);
        x.sheet(0, 0, 4);
        x.cell(0, 1, 0);
        x.cell(0, 2, 1);
        x.cell(0, 3, 0);
        Due.due("a second state", x.state(0, 0), 1);
        Due.due("orbits(3) with two", x.orbits(3), 2);
        Due.due("far with two", x.far(Look.row("000"), Look.row("110")), 2);
        x.letters(3);
        Due.due("orbits(3) of three letters", x.orbits(3), 27);
    }

    private static String way(SwitchTower x, String from, String to) {
        StringBuilder text = new StringBuilder();
        for (int i = 0; x.way(Look.row(from), Look.row(to), i) != 0; i++) {
            text.append(i == 0 ? "" : " ").append(x.way(Look.row(from), Look.row(to), i));
        }
        return text.toString();
    }
}
