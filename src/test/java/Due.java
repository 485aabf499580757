import java.util.function.IntSupplier;

/** Counts answers that are not the ones that are due, and tells them. */
final class Due {
    private static int right = 0;
    private static int wrong = 0;

    private Due() {
    }

    static void due(String call, long got, long want) {
        check(call + " answered " + got + ", due is " + want, got == want);
    }

    static void due(String what, String got, String want) {
        check(what + " was " + got + ", due is " + want, got.equals(want));
    }

    static void check(String fault, boolean holds) {
        if (holds) {
            right++;
        } else {
            wrong++;
            if (wrong <= 50) {
                System.out.println(fault);
            }
        }
    }

    static int count() {
        return right + wrong;
    }

    /** A call that answers so must leave all that can be asked of the object as it was. */
    static void unchanged(SwitchTower x, String call, IntSupplier asked, long want) {
        String before = Look.at(x);
        due(call, asked.getAsInt(), want);
        due("what is left behind " + call, Look.at(x), before);
    }

    static void end() {
        System.out.println("  " + right + " answers as due, " + wrong + " not");
        if (wrong != 0 || right == 0) {
            System.exit(1);
        }
    }
}
