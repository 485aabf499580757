import java.lang.reflect.Method;
import java.lang.reflect.Modifier;
import java.util.ArrayList;
import java.util.HashMap;
import java.util.List;
import java.util.Map;
import java.util.function.Supplier;

/**
 * Calls on a new object, each held against the answer that is due. A run can be done again on another
 * object: so what a refused call leaves behind is held against what stands without that call, and no
 * check hangs on an earlier one.
 */
final class Run {
    // The document promises 512 calls; those that lay a bench of eight STATES are not counted here.
    private static final int MOST_CALLS = 420;
    private static final Map<String, Method> FACE = face();

    private final Supplier<SwitchTower> bench;
    private final SwitchTower x;
    private final List<Call> calls = new ArrayList<>();
    private int asked = 0;

    private record Call(String name, int[] given) {
        Call with(int place, int number) {
            int[] other = given.clone();
            other[place] = number;
            return new Call(name, other);
        }

        @Override
        public String toString() {
            StringBuilder text = new StringBuilder(name).append('(');
            for (int i = 0; i < given.length; i++) {
                text.append(i == 0 ? "" : ", ").append(given[i]);
            }
            return text.append(')').toString();
        }
    }

    private Run(Supplier<SwitchTower> bench) {
        this.bench = bench;
        this.x = bench.get();
    }

    static Run on(Supplier<SwitchTower> bench) {
        return new Run(bench);
    }

    static Run fresh() {
        return on(SwitchTower::new);
    }

    /** A machine of k LETTERS; each row is what one STATE WRITES and where it GOES, LETTER by LETTER. */
    static Run of(int k, int[]... states) {
        return on(() -> Benches.of(k, states));
    }

    private static Map<String, Method> face() {
        Map<String, Method> face = new HashMap<>();
        for (Method method : SwitchTower.class.getDeclaredMethods()) {
            if (Modifier.isPublic(method.getModifiers())) {
                face.put(method.getName(), method);
            }
        }
        return face;
    }

    /** The same calls on another object. */
    Run again() {
        Run other = new Run(bench);
        for (Call call : calls) {
            other.keep(call);
        }
        return other;
    }

    /** A call on the way, whose answer is not looked at. */
    Run does(String name, int... given) {
        keep(new Call(name, given));
        return this;
    }

    Run due(int want, String name, int... given) {
        Call call = new Call(name, given);
        Due.due(Doc.here() + calls + ", then " + call, keep(call), want);
        return this;
    }

    /** A call that is refused, and changes nothing of what can be asked of the object. */
    Run refused(int want, String name, int... given) {
        refuse(want, new Call(name, given));
        return this;
    }

    /**
     * The number given at a place may be low to high: those at both ends are taken; those beside them,
     * and the least and the greatest int, are refused.
     */
    Run bounds(int refusal, int place, int low, int high, String name, int... given) {
        Call call = new Call(name, given);
        for (int number : new int[] {low, high}) {
            Call taken = call.with(place, number);
            Due.check(Doc.here() + calls + ", then " + taken + " is refused", again().keep(taken) != refusal);
        }
        for (int number : new int[] {low - 1, high + 1, Integer.MIN_VALUE, Integer.MAX_VALUE}) {
            refuse(refusal, call.with(place, number));
        }
        return this;
    }

    /** The WORD of a SPOT has these TOKENS. */
    Run word(String want, int spot) {
        Due.due(Doc.here() + calls + ", then the word of spot " + spot, Look.word(again().x, spot), want);
        return this;
    }

    /** Brings a WORD, told as its TOKENS, to the end of a SPOT's. */
    Run puts(int spot, String word) {
        String[] tokens = word.split(" ");
        for (int i = 0; i < tokens.length; i += 4) {
            int[] given = new int[5];
            given[0] = spot;
            for (int j = i; j < i + 4 && j < tokens.length; j++) {
                given[1 + j - i] = Integer.parseInt(tokens[j]);
            }
            does("put", given);
        }
        return this;
    }

    private void refuse(int want, Call call) {
        Run other = again();
        Due.due(Doc.here() + calls + ", then " + call, other.ask(call), want);
        Due.due(Doc.here() + calls + ", then what is left behind " + call, other.look(), again().look());
    }

    private int keep(Call call) {
        calls.add(call);
        return ask(call);
    }

    private int ask(String name, int... given) {
        return ask(new Call(name, given));
    }

    private int ask(Call call) {
        asked++;
        if (asked > MOST_CALLS) {
            Due.check(calls + " and what was asked then are more calls than an object is promised for", false);
        }
        Object[] boxed = new Object[call.given.length];
        for (int i = 0; i < boxed.length; i++) {
            boxed[i] = call.given[i];
        }
        try {
            return (int) FACE.get(call.name).invoke(x, boxed);
        } catch (ReflectiveOperationException fault) {
            throw new IllegalStateException(call.toString(), fault);
        }
    }

    /** All that can be asked of the object, as a text. It is not to be used any more then: numbers are written. */
    private String look() {
        StringBuilder text = new StringBuilder();
        lookAtStates(text);
        for (int r = 0; r < 4; r++) {
            lookAtSheet(text, r);
        }
        for (int spot = 0; spot < 8; spot++) {
            int size = ask("size", spot);
            text.append("| ");
            for (int i = 0; i < size; i++) {
                text.append(ask("token", spot, i)).append(' ');
            }
        }
        // What is kept from call to call inside the object shows in these.
        text.append("| ").append(ask("heap", 0)).append(' ').append(ask("orbits", 1)).append(' ');
        text.append(ask("growth", 1)).append(' ').append(ask("laws", 1)).append(' ').append(ask("fall", 1));
        return text.toString();
    }

    private void lookAtStates(StringBuilder text) {
        int letters = ask("many", 0);
        int states = ask("many", 1);
        text.append(letters).append(' ').append(states).append(' ');
        text.append(ask("many", 2)).append(' ').append(ask("many", 3)).append(" | ");
        for (int s = 0; s < states; s++) {
            text.append(ask("of", s, 0, 2)).append(':');
            for (int letter = 0; letter < letters; letter++) {
                text.append(ask("of", s, letter, 0)).append('>').append(ask("of", s, letter, 1)).append(' ');
            }
        }
    }

    /** Its numbers, one beyond the last that may be too, and how it casts: that tells its kind. */
    private void lookAtSheet(StringBuilder text, int r) {
        text.append("| ");
        if (ask("cell", r, -1, 0) == SwitchTower.MISSING) {
            text.append("none ");
            return;
        }
        for (int i = 0; i <= 40; i++) {
            text.append(ask("told", r, i)).append(' ');
        }
        ask("cell", r, 0, 0x12345678);
        text.append(ask("told", r, 0)).append(' ');
    }
}
