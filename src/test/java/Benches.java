/** Well-known machines, laid out through the calls. */
final class Benches {
    private Benches() {
    }

    /** An object with k LETTERS; each row is what one STATE WRITES and where it GOES, LETTER by LETTER. */
    static SwitchTower of(int k, int[]... states) {
        SwitchTower x = new SwitchTower();
        x.letters(k);
        for (int[] state : states) {
            x.sheet(3, 2, state.length);
            for (int i = 0; i < state.length; i++) {
                x.cell(3, i, state[i]);
            }
            x.state(3, 0);
        }
        x.lose(3);
        return x;
    }

    /** STATE 0 adds one to a number whose lowest digit stands first. */
    static SwitchTower odometer(int k) {
        int[] state = new int[2 * k];
        for (int x = 0; x < k; x++) {
            state[2 * x] = (x + 1) % k;
            state[2 * x + 1] = x == k - 1 ? 0 : -1;
        }
        return of(k, state);
    }

    /** Grigorchuk's: a, b, c, d are STATES 0 to 3. */
    static SwitchTower grigorchuk() {
        return of(2, new int[] {1, -1, 0, -1}, new int[] {0, 0, 1, 2}, new int[] {0, 0, 1, 3},
            new int[] {0, -1, 1, 1});
    }

    /** The lamplighter's: two STATES that make a group in which no heap of short words is closed. */
    static SwitchTower lamplighter() {
        return of(2, new int[] {1, 1, 0, 0}, new int[] {0, 1, 1, 0});
    }

    /** STATE 0 makes all LETTERS ones: it has no way back. STATE 1 turns the first LETTER, and has. */
    static SwitchTower eraser() {
        return of(2, new int[] {1, 0, 1, 0}, new int[] {1, -1, 0, -1});
    }
}
