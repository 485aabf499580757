/** The document's names, and STATES of few switches, for the tests of its edges. */
class Edges {
    static final int LEAST = Integer.MIN_VALUE;
    static final int GREATEST = Integer.MAX_VALUE;
    static final int NUMBER = SwitchTower.NUMBER;
    static final int FULL = SwitchTower.FULL;
    static final int MISSING = SwitchTower.MISSING;
    static final int SIZE = SwitchTower.SIZE;
    static final int STATE = SwitchTower.STATE;
    static final int KIND = SwitchTower.KIND;
    static final int SPENT = SwitchTower.SPENT;
    static final int NEVER = SwitchTower.NEVER;

    /** What one STATE WRITES and where it GOES: nothing changes; 0 and 1 are turned; 0 and 1 become 0. */
    static final int[] STILL = {};
    static final int[] TURN = {1, -1, 0, -1};
    static final int[] ERASE = {0, -1, 0, -1};

    static Run eight(int k, int[] state) {
        return Run.of(k, state, state, state, state, state, state, state, state);
    }
}
