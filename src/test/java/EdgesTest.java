import java.io.IOException;

/**
 * The edges that the document names, sentence by sentence: the last number that may be and the first that
 * may not, what is empty, what is full, and each refusal. Every check stands under the sentence it is of.
 */
public final class EdgesTest {
    private EdgesTest() {
    }

    public static void main(String[] args) throws IOException {
        Doc.open();
        EdgesOfSheets.check();
        EdgesOfWords.check();
        EdgesOfLevels.check();
        EdgesOfShortWords.check();
        Doc.close();
        lastCall();
        Due.end();
    }

    /** An object is used for at most 512 calls: the last one of these is answered like the first. */
    private static void lastCall() {
        SwitchTower x = Benches.grigorchuk();
        x.put(0, 2, 3, 0, 0);
        x.put(1, 4, 0, 0, 0);
        int[] due = {9, 128, 11, SwitchTower.SPENT, 1, 10, 8, SwitchTower.SPENT};
        // Laying the bench took 26 calls, and there are two since.
        for (int call = 29; call <= 512; call++) {
            Due.due("call " + call + " of an object", dearCall(x, call % due.length), due[call % due.length]);
        }
    }

    private static int dearCall(SwitchTower x, int which) {
        return switch (which) {
            case 0 -> x.fall(1);
            case 1 -> x.group(3);
            case 2 -> x.growth(2);
            case 3 -> x.growth(3);
            case 4 -> x.same(0, 1);
            case 5 -> x.reach(256);
            case 6 -> x.laws(2);
            default -> x.group(4);
        };
    }
}
