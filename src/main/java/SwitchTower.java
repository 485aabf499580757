import java.util.Arrays;

/**
 * A bench for acts of few switches on endless rows of letters. What each call promises stands in
 * the document (DOC.md); the words in capitals there are used here in the same sense.
 *
 * <p>All rows of numbers are made once, with the object, and used again by every call: a run of
 * calls has one small room for all that it makes.
 *
 * <p>A TOKEN is held as a mark: twice its STATE's number, and one more for a way back. So marks
 * stand in the order of TOKENS, the opposite of a mark is mark ^ 1, and sixteen of them fit a long.
 */
public final class SwitchTower {
    public static final int NUMBER = -1;
    public static final int FULL = -2;
    public static final int MISSING = -3;
    public static final int SIZE = -4;
    public static final int STATE = -5;
    public static final int KIND = -6;
    public static final int SPENT = -7;
    public static final int NEVER = -8;

    private static final int IDLE = -1;
    private static final int NOTHING_TOLD = -2147483648;
    private static final int NOTHING_OF = -2;
    private static final int MOST_SHEETS = 4;
    private static final int MOST_NUMBERS = 40;
    private static final int MOST_LETTERS = 4;
    private static final int MOST_STATES = 8;
    private static final int MOST_MARKS = 16;
    private static final int MOST_TOKENS = 16;
    private static final int MOST_SPOTS = 8;
    private static final int MOST_PUT = 4;
    private static final int MOST_ROW_LETTERS = 10;
    private static final int MOST_APART_LETTERS = 14;
    private static final int MOST_LEVEL_ROWS = 256;
    private static final int MOST_LEVELS = 9;
    private static final int MOST_GROUP_ROWS = 16;
    private static final int MOST_GROUP = 3000;
    private static final int MOST_ORDER = 1000000;
    private static final int MOST_WORDS = 200;
    private static final int MOST_WITHIN = 5;
    private static final int MOST_FALLEN = 20;
    private static final int MOST_DEPTH = 2;

    private final Sheet[] sheets = new Sheet[MOST_SHEETS];
    private final Word[] spots = new Word[MOST_SPOTS];
    private final int[] given = new int[MOST_PUT];
    private final Word scratch = new Word();
    private final Machine machine = new Machine();
    private final Levels levels = new Levels();
    private final LevelGroup levelGroup = new LevelGroup();
    private final Pool pool = new Pool();
    private final ShortWords shortWords = new ShortWords();

    public SwitchTower() {
        for (int r = 0; r < MOST_SHEETS; r++) {
            sheets[r] = new Sheet();
        }
        for (int spot = 0; spot < MOST_SPOTS; spot++) {
            spots[spot] = new Word();
        }
    }

    // ---- sheets and states

    public int sheet(int r, int kind, int n) {
        if (!isSheet(r) || kind < 0 || kind > 2) {
            return NUMBER;
        }
        if (n < 0) {
            return SIZE;
        }
        if (n > MOST_NUMBERS) {
            return NUMBER;
        }
        sheets[r].lay(kind, n);
        return 1;
    }

    public int cell(int r, int i, int v) {
        if (!isSheet(r)) {
            return NUMBER;
        }
        if (!sheets[r].there) {
            return MISSING;
        }
        if (!sheets[r].hasNumber(i)) {
            return NUMBER;
        }
        sheets[r].write(i, v);
        return 1;
    }

    public int told(int r, int i) {
        if (!isSheet(r) || !sheets[r].there || !sheets[r].hasNumber(i)) {
            return NOTHING_TOLD;
        }
        return sheets[r].numbers[i];
    }

    public int lose(int r) {
        if (!isSheet(r)) {
            return NUMBER;
        }
        if (!sheets[r].there) {
            return MISSING;
        }
        sheets[r].there = false;
        return 1;
    }

    public int letters(int k) {
        if (k < 2 || k > MOST_LETTERS) {
            return NUMBER;
        }
        machine.restart(k);
        forgetAnswers();
        for (int spot = 0; spot < MOST_SPOTS; spot++) {
            spots[spot].empty();
        }
        return 1;
    }

    public int state(int r, int i) {
        if (!isSheet(r) || i < 0) {
            return NUMBER;
        }
        if (!sheets[r].there) {
            return MISSING;
        }
        if (!machine.canRead(sheets[r], i)) {
            return NUMBER;
        }
        if (machine.states >= MOST_STATES) {
            return FULL;
        }
        machine.read(sheets[r], i);
        forgetAnswers();
        return machine.states - 1;
    }

    public int change(int s, int x, int y, int t) {
        if (!machine.isState(s) || !machine.isLetter(x) || !machine.isLetter(y) || !isGoal(t)) {
            return NUMBER;
        }
        machine.rewire(s, x, y, t);
        forgetAnswers();
        for (int spot = 0; spot < MOST_SPOTS; spot++) {
            if (hasLostWayBack(spots[spot])) {
                spots[spot].empty();
            }
        }
        return 1;
    }

    public int of(int s, int x, int what) {
        if (!machine.isState(s) || what < 0 || what > 2) {
            return NOTHING_OF;
        }
        if (what == 2) {
            return machine.isBack(s) ? 1 : 0;
        }
        if (!machine.isLetter(x)) {
            return NOTHING_OF;
        }
        int at = s * MOST_LETTERS + x;
        return what == 0 ? machine.writes[at] : machine.goes[at];
    }

    public int many(int what) {
        switch (what) {
            case 0:
                return machine.letters;
            case 1:
                return machine.states;
            case 2:
                return machine.whole ? 1 : 0;
            case 3:
                return machine.markCount;
            default:
                return -1;
        }
    }

    // ---- words

    public int put(int spot, int a, int b, int c, int d) {
        if (!isSpot(spot)) {
            return NUMBER;
        }
        given[0] = a;
        given[1] = b;
        given[2] = c;
        given[3] = d;
        int refusal = refusalOfGiven();
        if (refusal < 0) {
            return refusal;
        }
        // The new TOKENS are REDUCED by themselves first: pairs among them must not count as FULL.
        scratch.empty();
        for (int i = 0; i < MOST_PUT && given[i] != 0; i++) {
            scratch.push(markOf(given[i]));
        }
        return join(spots[spot], scratch, spot);
    }

    public int wipe(int spot) {
        if (!isSpot(spot)) {
            return NUMBER;
        }
        int had = spots[spot].length;
        spots[spot].empty();
        return had;
    }

    public int size(int spot) {
        return isSpot(spot) ? spots[spot].length : NUMBER;
    }

    public int token(int spot, int i) {
        if (!isSpot(spot) || i < 0 || i >= spots[spot].length) {
            return 0;
        }
        return tokenOf(spots[spot].mark(i));
    }

    public int times(int a, int b, int to) {
        if (!isSpot(a) || !isSpot(b) || !isSpot(to)) {
            return NUMBER;
        }
        return join(spots[a], spots[b], to);
    }

    public int turn(int a, int to) {
        if (!isSpot(a) || !isSpot(to)) {
            return NUMBER;
        }
        if (!hasBackStates(spots[a])) {
            return KIND;
        }
        scratch.empty();
        for (int i = spots[a].length - 1; i >= 0; i--) {
            scratch.push(spots[a].mark(i) ^ 1);
        }
        return bring(scratch, to);
    }

    public int act(int spot, int row) {
        int n = machine.rowLength(row);
        if (!isSpot(spot) || n < 0) {
            return NUMBER;
        }
        if (!machine.whole) {
            return STATE;
        }
        scratch.copy(spots[spot]);
        return walkDown(scratch, row, n);
    }

    public int part(int a, int row, int to) {
        int n = machine.rowLength(row);
        if (!isSpot(a) || n < 0 || !isSpot(to)) {
            return NUMBER;
        }
        if (!machine.whole) {
            return STATE;
        }
        scratch.copy(spots[a]);
        walkDown(scratch, row, n);
        return bring(scratch, to);
    }

    public int same(int a, int b) {
        int refusal = gather(a, b);
        if (refusal < 0) {
            return refusal;
        }
        pool.classify();
        return pool.areAlike(pool.indexOf(spots[a]), pool.indexOf(spots[b])) ? 1 : 0;
    }

    public int apart(int a, int b) {
        int refusal = gather(a, b);
        if (refusal < 0) {
            return refusal;
        }
        pool.classify();
        return pool.partingRow(pool.indexOf(spots[a]), pool.indexOf(spots[b]));
    }

    public int heap(int a) {
        int refusal = gather(a, a);
        return refusal < 0 ? refusal : pool.words.count;
    }

    public int least(int a) {
        int refusal = gather(a, a);
        if (refusal < 0) {
            return refusal;
        }
        pool.classify();
        return pool.kinds;
    }

    // ---- levels

    public int order(int a, int n) {
        if (!isSpot(a) || machine.power(n, MOST_LEVEL_ROWS) == 0) {
            return NUMBER;
        }
        if (!machine.whole) {
            return STATE;
        }
        if (!hasBackStates(spots[a])) {
            return KIND;
        }
        levels.build(machine, n);
        return levels.roundsToRest(spots[a], n);
    }

    public int orbits(int n) {
        if (machine.power(n, MOST_LEVEL_ROWS) == 0) {
            return NUMBER;
        }
        if (!machine.whole) {
            return STATE;
        }
        levels.build(machine, n);
        return levels.countBackOrbits(machine, n);
    }

    public int orbit(int row) {
        int n = levelOf(row);
        if (n < 0) {
            return NUMBER;
        }
        if (!machine.whole) {
            return STATE;
        }
        return walkFrom(row, n);
    }

    public int far(int from, int to) {
        int n = levelOf(from);
        if (n < 0 || machine.rowLength(to) != n) {
            return NUMBER;
        }
        if (!machine.whole) {
            return STATE;
        }
        walkFrom(from, n);
        int distance = levels.distance[machine.rowIndex(to, n)];
        return distance < 0 ? NEVER : distance;
    }

    public int way(int from, int to, int i) {
        int moves = far(from, to);
        if (i < 0 || i >= moves) {
            return 0;
        }
        int goal = machine.rowIndex(to, machine.rowLength(to));
        return tokenOf(levels.markOfMove(goal, moves, i));
    }

    public int reach(int row) {
        int n = levelOf(row);
        if (n < 0) {
            return NUMBER;
        }
        if (!machine.whole) {
            return STATE;
        }
        int count = walkFrom(row, n);
        return levels.distance[levels.queue[count - 1]];
    }

    public int group(int n) {
        int rows = machine.power(n, MOST_GROUP_ROWS);
        if (rows == 0) {
            return NUMBER;
        }
        if (!machine.whole) {
            return STATE;
        }
        levels.build(machine, n);
        levelGroup.begin(rows);
        for (int s = 0; s < machine.states; s++) {
            if (machine.isBack(s) && !levelGroup.bringIn(levels.packed(2 * s, n))) {
                return SPENT;
            }
        }
        return levelGroup.members.count;
    }

    // ---- short words

    public int growth(int m) {
        int refusal = shortWords.gatherWithin(machine, m);
        return refusal < 0 ? refusal : shortWords.pool.kinds;
    }

    public int laws(int m) {
        int refusal = shortWords.gatherWithin(machine, m);
        return refusal < 0 ? refusal : shortWords.countLaws();
    }

    public int law(int m, int i, int to) {
        if (!isSpot(to)) {
            return NUMBER;
        }
        int refusal = shortWords.gatherWithin(machine, m);
        if (refusal < 0) {
            return refusal;
        }
        int index = shortWords.findLaw(i);
        if (index < 0) {
            return NEVER;
        }
        shortWords.pool.load(index, scratch);
        return bring(scratch, to);
    }

    public int fall(int d) {
        int refusal = shortWords.gatherFallen(machine, d);
        return refusal < 0 ? refusal : shortWords.fallenCount;
    }

    public int fallen(int d, int i, int to) {
        if (!isSpot(to)) {
            return NUMBER;
        }
        int refusal = shortWords.gatherFallen(machine, d);
        if (refusal < 0) {
            return refusal;
        }
        if (i < 0 || i >= shortWords.fallenCount) {
            return NEVER;
        }
        shortWords.pool.load(shortWords.fallenWords[i], scratch);
        return bring(scratch, to);
    }

    // ---- helpers of the calls

    private static boolean isSheet(int r) {
        return r >= 0 && r < MOST_SHEETS;
    }

    private static boolean isSpot(int spot) {
        return spot >= 0 && spot < MOST_SPOTS;
    }

    private static boolean isGoal(int t) {
        return t >= IDLE && t < MOST_STATES;
    }

    private static int markOf(int token) {
        return token > 0 ? 2 * (token - 1) : 2 * (-token - 1) + 1;
    }

    private static int tokenOf(int mark) {
        int token = (mark >> 1) + 1;
        return (mark & 1) == 0 ? token : -token;
    }

    private void forgetAnswers() {
        levels.forget();
        shortWords.forget();
    }

    private boolean hasLostWayBack(Word word) {
        for (int i = 0; i < word.length; i++) {
            int mark = word.mark(i);
            if ((mark & 1) == 1 && !machine.isBack(mark >> 1)) {
                return true;
            }
        }
        return false;
    }

    private boolean hasBackStates(Word word) {
        for (int i = 0; i < word.length; i++) {
            if (!machine.isBack(word.mark(i) >> 1)) {
                return false;
            }
        }
        return true;
    }

    private int refusalOfGiven() {
        int refusal = 0;
        for (int i = 0; i < MOST_PUT && given[i] != 0; i++) {
            int token = given[i];
            if (token < -machine.states || token > machine.states) {
                return NUMBER;
            }
            if (token < 0 && !machine.isBack(-token - 1)) {
                refusal = KIND;
            }
        }
        return refusal;
    }

    private int bring(Word word, int to) {
        spots[to].copy(word);
        return word.length;
    }

    // Both words are REDUCED: once they no longer cancel the joined one only grows, so FULL is final.
    // The second one is read beforehand: it may be the scratch word itself.
    private int join(Word first, Word second, int to) {
        long tail = second.marks;
        int tailLength = second.length;
        scratch.copy(first);
        for (int i = 0; i < tailLength; i++) {
            if (!scratch.push((int) (tail >>> (4 * i)) & 15)) {
                return FULL;
            }
        }
        return bring(scratch, to);
    }

    /** Makes a word its PART at a ROW, and tells what it made of that ROW. */
    private int walkDown(Word word, int row, int n) {
        int made = 1;
        for (int i = n - 1; i >= 0; i--) {
            made = 4 * made + word.descend(machine, (row >> (2 * i)) & 3);
        }
        return made;
    }

    private int gather(int a, int b) {
        if (!isSpot(a) || !isSpot(b)) {
            return NUMBER;
        }
        if (!machine.whole) {
            return STATE;
        }
        pool.reset();
        if (pool.take(machine, spots[a]) < 0 || pool.take(machine, spots[b]) < 0) {
            return SPENT;
        }
        return 0;
    }

    private int levelOf(int row) {
        int n = machine.rowLength(row);
        return machine.power(n, MOST_LEVEL_ROWS) == 0 ? -1 : n;
    }

    private int walkFrom(int row, int n) {
        levels.build(machine, n);
        levels.forgetRows();
        return levels.spread(machine, n, machine.rowIndex(row, n), false);
    }

    /** A SHEET, as ints that its kind has cast. */
    private static final class Sheet {
        final int[] numbers = new int[MOST_NUMBERS];
        boolean there;
        int kind;
        int count;

        void lay(int newKind, int n) {
            Arrays.fill(numbers, 0);
            there = true;
            kind = newKind;
            count = n;
        }

        boolean hasNumber(int i) {
            return i >= 0 && i < count;
        }

        // The first test keeps the sum of the second one from wrapping around.
        boolean hasPair(int from, int x) {
            return from < count && from + 2 * x + 1 < count;
        }

        void write(int i, int v) {
            switch (kind) {
                case 0:
                    numbers[i] = (byte) v;
                    break;
                case 1:
                    numbers[i] = (short) v;
                    break;
                default:
                    numbers[i] = v;
                    break;
            }
        }
    }

    /** The STATES, and what follows from them: which are BACK, which TOKENS there are. */
    private static final class Machine {
        final int[] writes = new int[MOST_STATES * MOST_LETTERS];
        final int[] goes = new int[MOST_STATES * MOST_LETTERS];
        final int[] markWrites = new int[MOST_MARKS * MOST_LETTERS];
        final int[] markGoes = new int[MOST_MARKS * MOST_LETTERS];
        final int[] marks = new int[MOST_MARKS];
        int markCount = 0;
        int letters = 2;
        int states = 0;
        int backs = 0;
        boolean whole = true;

        void restart(int k) {
            letters = k;
            states = 0;
            refresh();
        }

        boolean isState(int s) {
            return s >= 0 && s < states;
        }

        boolean isLetter(int x) {
            return x >= 0 && x < letters;
        }

        boolean isBack(int s) {
            return ((backs >> s) & 1) == 1;
        }

        boolean canRead(Sheet sheet, int from) {
            for (int x = 0; x < letters; x++) {
                if (sheet.hasPair(from, x)) {
                    int at = from + 2 * x;
                    if (!isLetter(sheet.numbers[at]) || !isGoal(sheet.numbers[at + 1])) {
                        return false;
                    }
                }
            }
            return true;
        }

        void read(Sheet sheet, int from) {
            for (int x = 0; x < letters; x++) {
                boolean told = sheet.hasPair(from, x);
                int at = states * MOST_LETTERS + x;
                writes[at] = told ? sheet.numbers[from + 2 * x] : x;
                goes[at] = told ? sheet.numbers[from + 2 * x + 1] : IDLE;
            }
            states++;
            refresh();
        }

        void rewire(int s, int x, int y, int t) {
            writes[s * MOST_LETTERS + x] = y;
            goes[s * MOST_LETTERS + x] = t;
            refresh();
        }

        private void refresh() {
            int known = (1 << states) - 1;
            int missing = ~known;
            whole = true;
            backs = known;
            for (int s = 0; s < states; s++) {
                if ((goals(s) & missing) != 0) {
                    whole = false;
                }
                if ((goals(s) & missing) != 0 || !writesUnlike(s)) {
                    backs &= ~(1 << s);
                }
            }
            // Being not BACK goes from STATE to STATE against the arrows: one round an arrow.
            for (int round = 0; round < states; round++) {
                for (int s = 0; s < states; s++) {
                    if ((goals(s) & ~backs) != 0) {
                        backs &= ~(1 << s);
                    }
                }
            }
            listMarks();
        }

        private int goals(int s) {
            int goals = 0;
            for (int x = 0; x < letters; x++) {
                int goal = goes[s * MOST_LETTERS + x];
                if (goal != IDLE) {
                    goals |= 1 << goal;
                }
            }
            return goals;
        }

        private boolean writesUnlike(int s) {
            int written = 0;
            for (int x = 0; x < letters; x++) {
                written |= 1 << writes[s * MOST_LETTERS + x];
            }
            return written == (1 << letters) - 1;
        }

        private void listMarks() {
            markCount = 0;
            for (int s = 0; s < states; s++) {
                marks[markCount++] = 2 * s;
                if (isBack(s)) {
                    marks[markCount++] = 2 * s + 1;
                }
                for (int x = 0; x < letters; x++) {
                    wireMarks(s, x);
                }
            }
        }

        private void wireMarks(int s, int x) {
            int letter = writes[s * MOST_LETTERS + x];
            int goal = goes[s * MOST_LETTERS + x];
            int ahead = 2 * s * MOST_LETTERS + x;
            markWrites[ahead] = letter;
            markGoes[ahead] = goal == IDLE ? IDLE : 2 * goal;
            if (isBack(s)) {
                int behind = (2 * s + 1) * MOST_LETTERS + letter;
                markWrites[behind] = x;
                markGoes[behind] = goal == IDLE ? IDLE : 2 * goal + 1;
            }
        }

        /** How many LETTERS a ROW has; -1 if the number tells none. */
        int rowLength(int row) {
            for (int n = 0; n <= MOST_ROW_LETTERS; n++) {
                if (row >> (2 * n) == 1) {
                    return hasLetters(row, n) ? n : -1;
                }
            }
            return -1;
        }

        private boolean hasLetters(int row, int n) {
            for (int i = 0; i < n; i++) {
                if (((row >> (2 * i)) & 3) >= letters) {
                    return false;
                }
            }
            return true;
        }

        /** The place of a ROW among those of its LEVEL. */
        int rowIndex(int row, int n) {
            int index = 0;
            for (int i = n - 1; i >= 0; i--) {
                index = index * letters + ((row >> (2 * i)) & 3);
            }
            return index;
        }

        /** How many ROWS of n LETTERS there are; 0 if n is below 0, or if they are more than most. */
        int power(int n, int most) {
            if (n < 0) {
                return 0;
            }
            int rows = 1;
            for (int i = 0; i < n; i++) {
                rows *= letters;
                if (rows > most) {
                    return 0;
                }
            }
            return rows;
        }
    }

    /** A REDUCED row of marks, the first one in the lowest four bits. */
    private static final class Word {
        long marks = 0;
        int length = 0;

        void empty() {
            marks = 0;
            length = 0;
        }

        void copy(Word other) {
            marks = other.marks;
            length = other.length;
        }

        int mark(int i) {
            return (int) (marks >>> (4 * i)) & 15;
        }

        /** Brings a mark to the end, REDUCED; false, and nothing is changed, if there is no place. */
        boolean push(int mark) {
            if (length > 0 && ((int) (marks >>> (4 * length - 4)) & 15) == (mark ^ 1)) {
                length--;
                marks &= (1L << (4 * length)) - 1;
                return true;
            }
            if (length >= MOST_TOKENS) {
                return false;
            }
            marks |= (long) mark << (4 * length);
            length++;
            return true;
        }

        /** Becomes its PART at a LETTER, and tells what it made of that LETTER. */
        int descend(Machine machine, int letter) {
            long old = marks;
            int oldLength = length;
            int now = letter;
            empty();
            for (int i = 0; i < oldLength; i++) {
                int at = ((int) (old >>> (4 * i)) & 15) * MOST_LETTERS + now;
                now = machine.markWrites[at];
                if (machine.markGoes[at] != IDLE) {
                    push(machine.markGoes[at]);
                }
            }
            return now;
        }
    }

    /** Numbers keys as they come, each once. */
    private static final class KeyTable {
        private static final int INDEX_BITS = 12;
        private static final int INDEX_MASK = (1 << INDEX_BITS) - 1;
        private static final int MOST_STAMPS = 500000;
        private static final long SPREAD = 0x9E3779B97F4A7C15L;

        final long[] keys;
        final int[] tails;
        final int[] slots;
        int count = 0;
        int stamp = 1;

        KeyTable(int most, int slotCount) {
            keys = new long[most];
            tails = new int[most];
            slots = new int[slotCount];
        }

        // A slot counts only with the stamp of now, so that clearing need not go over all slots.
        void clear() {
            count = 0;
            stamp++;
            if (stamp > MOST_STAMPS) {
                Arrays.fill(slots, 0);
                stamp = 1;
            }
        }

        /** The key's number; -1 if it has none. */
        int find(long key, int tail) {
            int slot = slotOf(key, tail);
            boolean stands = slot >= 0 && slots[slot] >>> INDEX_BITS == stamp;
            return stands ? slots[slot] & INDEX_MASK : -1;
        }

        /** The key's number, a new one if it had none; -1 if there is no place for it. */
        int add(long key, int tail) {
            int slot = slotOf(key, tail);
            if (slot < 0) {
                return -1;
            }
            if (slots[slot] >>> INDEX_BITS == stamp) {
                return slots[slot] & INDEX_MASK;
            }
            if (count >= keys.length) {
                return -1;
            }
            keys[count] = key;
            tails[count] = tail;
            slots[slot] = (stamp << INDEX_BITS) | count;
            count++;
            return count - 1;
        }

        /** Where the key stands, or the free slot for it; -1 if it does not stand and none is free. */
        private int slotOf(long key, int tail) {
            int mask = slots.length - 1;
            int slot = (int) (((key + tail) * SPREAD) >>> 40) & mask;
            for (int tries = 0; tries <= mask; tries++) {
                if (slots[slot] >>> INDEX_BITS != stamp) {
                    return slot;
                }
                int index = slots[slot] & INDEX_MASK;
                if (keys[index] == key && tails[index] == tail) {
                    return slot;
                }
                slot = (slot + 1) & mask;
            }
            return -1;
        }
    }

    /** WORDS with all their PARTS, and which of them are ALIKE. */
    private static final class Pool {
        final KeyTable words = new KeyTable(MOST_WORDS, 512);
        final KeyTable signs = new KeyTable(MOST_WORDS, 512);
        final int[] parts = new int[MOST_WORDS * MOST_LETTERS];
        final int[] writings = new int[MOST_WORDS];
        final int[] kindOf = new int[MOST_WORDS];
        final int[] nextKindOf = new int[MOST_WORDS];
        final int[] rounds = new int[MOST_APART_LETTERS * MOST_WORDS];
        final Word scratch = new Word();
        int letters = 0;
        int followed = 0;
        int classified = 0;
        int kinds = 0;
        int roundCount = 0;

        void reset() {
            words.clear();
            followed = 0;
            classified = 0;
            kinds = 0;
            roundCount = 0;
        }

        int indexOf(Word word) {
            return words.find(word.marks, word.length);
        }

        void load(int index, Word word) {
            word.marks = words.keys[index];
            word.length = words.tails[index];
        }

        /** Takes up a word without its PARTS: its number, or -1 if there is no place for it. */
        int enter(Word word) {
            return words.add(word.marks, word.length);
        }

        /** Takes up a word and all its PARTS: its number, or -1 if there is no place for all. */
        int take(Machine machine, Word word) {
            int index = words.add(word.marks, word.length);
            return index >= 0 && followParts(machine) ? index : -1;
        }

        /** Takes up all PARTS of what is there; false if there is no place for all. */
        boolean followParts(Machine machine) {
            letters = machine.letters;
            for (int index = followed; index < words.count && index < MOST_WORDS; index++) {
                int writing = 0;
                for (int x = 0; x < letters; x++) {
                    load(index, scratch);
                    writing |= scratch.descend(machine, x) << (2 * x);
                    int part = words.add(scratch.marks, scratch.length);
                    if (part < 0) {
                        return false;
                    }
                    parts[index * MOST_LETTERS + x] = part;
                }
                writings[index] = writing;
                followed = index + 1;
            }
            return true;
        }

        /**
         * Sorts the words into kinds of ALIKE ones. After round n those are of one kind that make
         * the same of all ROWS of n LETTERS; a round that parts none is the last one that is needed.
         */
        void classify() {
            if (classified == words.count) {
                return;
            }
            classified = words.count;
            signs.clear();
            for (int index = 0; index < classified; index++) {
                kindOf[index] = signs.add(writings[index], 0);
            }
            kinds = signs.count;
            roundCount = 0;
            keepRound();
            for (int round = 1; round <= MOST_WORDS; round++) {
                int before = kinds;
                refine();
                if (kinds == before) {
                    break;
                }
                keepRound();
            }
        }

        private void refine() {
            signs.clear();
            for (int index = 0; index < classified; index++) {
                // Kinds are below 256, so a word's own and those of its PARTS fit one long.
                long sign = kindOf[index];
                for (int x = 0; x < letters; x++) {
                    sign = (sign << 8) | kindOf[parts[index * MOST_LETTERS + x]];
                }
                nextKindOf[index] = signs.add(sign, 0);
            }
            kinds = signs.count;
            System.arraycopy(nextKindOf, 0, kindOf, 0, classified);
        }

        private void keepRound() {
            if (roundCount < MOST_APART_LETTERS) {
                System.arraycopy(kindOf, 0, rounds, roundCount * MOST_WORDS, classified);
                roundCount++;
            }
        }

        boolean areAlike(int a, int b) {
            return kindOf[a] == kindOf[b];
        }

        private boolean arePartedBy(int round, int a, int b) {
            return rounds[round * MOST_WORDS + a] != rounds[round * MOST_WORDS + b];
        }

        /** The first ROW that two words make unlike, or NEVER. */
        int partingRow(int a, int b) {
            int round = 0;
            while (round < roundCount && !arePartedBy(round, a, b)) {
                round++;
            }
            if (round >= roundCount) {
                return NEVER;
            }
            int row = 1;
            int left = a;
            int right = b;
            for (int now = round; now > 0; now--) {
                int x = firstPartingLetter(now - 1, left, right);
                row = 4 * row + x;
                left = parts[left * MOST_LETTERS + x];
                right = parts[right * MOST_LETTERS + x];
            }
            return 4 * row + firstUnlikeLetter(writings[left] ^ writings[right]);
        }

        private int firstPartingLetter(int round, int a, int b) {
            for (int x = 0; x < letters; x++) {
                if (arePartedBy(round, parts[a * MOST_LETTERS + x], parts[b * MOST_LETTERS + x])) {
                    return x;
                }
            }
            return 0;
        }

        private int firstUnlikeLetter(int unlike) {
            for (int x = 0; x < letters; x++) {
                if (((unlike >> (2 * x)) & 3) != 0) {
                    return x;
                }
            }
            return 0;
        }
    }

    /** What each TOKEN makes of the ROWS of a LEVEL, and walks among these. */
    private static final class Levels {
        // All ROWS of all LEVELS of one number of LETTERS are at most 1 + 2 + .. + 256.
        private static final int ROOM = 512;

        final int[] table = new int[MOST_MARKS * ROOM];
        final int[] width = new int[MOST_LEVELS];
        final int[] start = new int[MOST_LEVELS];
        final int[] distance = new int[MOST_LEVEL_ROWS];
        final int[] queue = new int[MOST_LEVEL_ROWS];
        final int[] cameFrom = new int[MOST_LEVEL_ROWS];
        final int[] cameBy = new int[MOST_LEVEL_ROWS];
        int built = 0;

        void forget() {
            built = 0;
        }

        void forgetRows() {
            Arrays.fill(distance, -1);
        }

        void build(Machine machine, int n) {
            if (built == 0) {
                width[0] = 1;
                start[0] = 0;
                for (int mark = 0; mark < MOST_MARKS; mark++) {
                    table[mark * ROOM] = 0;
                }
                built = 1;
            }
            for (int level = built; level <= n && level < MOST_LEVELS; level++) {
                width[level] = width[level - 1] * machine.letters;
                start[level] = start[level - 1] + width[level - 1];
                for (int k = 0; k < machine.markCount; k++) {
                    for (int x = 0; x < machine.letters; x++) {
                        buildBranch(machine, level, machine.marks[k], x);
                    }
                }
                built = level + 1;
            }
        }

        private void buildBranch(Machine machine, int level, int mark, int x) {
            int rest = width[level - 1];
            int letter = machine.markWrites[mark * MOST_LETTERS + x];
            int goal = machine.markGoes[mark * MOST_LETTERS + x];
            int to = mark * ROOM + start[level] + x * rest;
            for (int i = 0; i < rest; i++) {
                int made = goal == IDLE ? i : table[goal * ROOM + start[level - 1] + i];
                table[to + i] = letter * rest + made;
            }
        }

        /** Goes over all ROWS to which MOVES lead, the nearest first, and counts them. */
        int spread(Machine machine, int n, int from, boolean backOnly) {
            int count = 1;
            queue[0] = from;
            distance[from] = 0;
            for (int head = 0; head < count && head < MOST_LEVEL_ROWS; head++) {
                int at = queue[head];
                for (int k = 0; k < machine.markCount; k++) {
                    int mark = machine.marks[k];
                    int next = table[mark * ROOM + start[n] + at];
                    if (distance[next] < 0 && (!backOnly || machine.isBack(mark >> 1))) {
                        distance[next] = distance[at] + 1;
                        cameFrom[next] = at;
                        cameBy[next] = mark;
                        queue[count++] = next;
                    }
                }
            }
            return count;
        }

        int countBackOrbits(Machine machine, int n) {
            int orbits = 0;
            forgetRows();
            for (int index = 0; index < width[n]; index++) {
                if (distance[index] < 0) {
                    spread(machine, n, index, true);
                    orbits++;
                }
            }
            return orbits;
        }

        int markOfMove(int goal, int moves, int i) {
            int at = goal;
            for (int move = moves - 1; move > i; move--) {
                at = cameFrom[at];
            }
            return cameBy[at];
        }

        /** How often a word of BACK STATES is done until each ROW is back, or SPENT. */
        int roundsToRest(Word word, int n) {
            long rounds = 1;
            forgetRows();
            for (int index = 0; index < width[n]; index++) {
                if (distance[index] < 0) {
                    long ring = ringLength(word, n, index);
                    rounds = rounds / commonDivisor(rounds, ring) * ring;
                }
                if (rounds > MOST_ORDER) {
                    return SPENT;
                }
            }
            return (int) rounds;
        }

        private int ringLength(Word word, int n, int index) {
            int ring = 0;
            int at = index;
            while (ring < width[n] && distance[at] < 0) {
                distance[at] = 0;
                for (int i = 0; i < word.length; i++) {
                    at = table[word.mark(i) * ROOM + start[n] + at];
                }
                ring++;
            }
            return Math.max(ring, 1);
        }

        private static long commonDivisor(long a, long b) {
            long high = a;
            long low = b;
            for (int step = 0; step < 100 && low > 0; step++) {
                long rest = high % low;
                high = low;
                low = rest;
            }
            return Math.max(high, 1);
        }

        /** What a mark does to a LEVEL of at most 16 ROWS, four bits a ROW. */
        long packed(int mark, int n) {
            long made = 0;
            for (int i = 0; i < width[n]; i++) {
                made |= (long) table[mark * ROOM + start[n] + i] << (4 * i);
            }
            return made;
        }
    }

    /** A group of at most 3000 that grows by one generator at a time. */
    private static final class LevelGroup {
        final KeyTable members = new KeyTable(MOST_GROUP, 4096);
        final long[] generators = new long[MOST_STATES];
        int generatorCount = 0;
        int points = 0;

        void begin(int rows) {
            points = rows;
            generatorCount = 0;
            members.clear();
            long still = 0;
            for (int i = 0; i < points; i++) {
                still |= (long) i << (4 * i);
            }
            members.add(still, 0);
        }

        /**
         * Brings a generator in; false if the group would have too many. What was there is a group,
         * and the new one falls into blocks of its size: only the first of each block is tried with
         * the generators, and what it leads to brings its whole block.
         */
        boolean bringIn(long generator) {
            if (members.find(generator, 0) >= 0 || generatorCount >= MOST_STATES) {
                return true;
            }
            generators[generatorCount++] = generator;
            int block = Math.max(members.count, 1);
            for (int first = 0; first < members.count && first < MOST_GROUP; first += block) {
                for (int g = 0; g < generatorCount; g++) {
                    long next = behind(members.keys[first], generators[g]);
                    if (members.find(next, 0) < 0 && !addBlock(block, next)) {
                        return false;
                    }
                }
            }
            return true;
        }

        private boolean addBlock(int block, long next) {
            if (members.count + block > MOST_GROUP) {
                return false;
            }
            for (int i = 0; i < block; i++) {
                members.add(behind(members.keys[i], next), 0);
            }
            return true;
        }

        private long behind(long first, long second) {
            long made = 0;
            for (int i = 0; i < points; i++) {
                int middle = (int) (first >>> (4 * i)) & 15;
                made |= ((second >>> (4 * middle)) & 15) << (4 * i);
            }
            return made;
        }
    }

    /** The WORDS within m, and heaps that are CLOSED by FALLING; the latest is kept until STATES change. */
    private static final class ShortWords {
        private static final int NOT_ASKED = 0;
        private static final int WITHIN = 100;
        private static final int FALLEN = 200;

        final Pool pool = new Pool();
        final Word word = new Word();
        final Word part = new Word();
        final int[] fallenWords = new int[MOST_FALLEN];
        final int[] looked = new int[MOST_MARKS * MOST_LETTERS * MOST_LETTERS];
        final int[] hasKind = new int[MOST_WORDS];
        int fallenCount = 0;
        int lookedCount = 0;
        int asked = NOT_ASKED;
        boolean fits = false;

        void forget() {
            asked = NOT_ASKED;
        }

        /** The pool becomes the WORDS within m, in order: 0, or why not. */
        int gatherWithin(Machine machine, int m) {
            if (m < 0 || m > MOST_WITHIN) {
                return NUMBER;
            }
            if (!machine.whole) {
                return STATE;
            }
            if (asked != WITHIN + m) {
                asked = WITHIN + m;
                fits = enterWithin(machine, m);
                // PARTS of these have no more TOKENS, so that they are among them already.
                if (fits && pool.followParts(machine)) {
                    pool.classify();
                }
            }
            return fits ? 0 : SPENT;
        }

        private boolean enterWithin(Machine machine, int m) {
            beginWithEmpty();
            int first = 0;
            for (int length = 1; length <= m; length++) {
                int end = pool.words.count;
                for (int index = first; index < end; index++) {
                    if (!extend(machine, index)) {
                        return false;
                    }
                }
                first = end;
            }
            return true;
        }

        private void beginWithEmpty() {
            pool.reset();
            word.empty();
            pool.enter(word);
        }

        private boolean extend(Machine machine, int index) {
            for (int k = 0; k < machine.markCount; k++) {
                pool.load(index, word);
                int before = word.length;
                word.push(machine.marks[k]);
                if (word.length > before && pool.enter(word) < 0) {
                    return false;
                }
            }
            return true;
        }

        private boolean isLaw(int index) {
            return index > 0 && pool.areAlike(index, 0);
        }

        int countLaws() {
            int laws = 0;
            for (int index = 0; index < pool.words.count; index++) {
                if (isLaw(index)) {
                    laws++;
                }
            }
            return laws;
        }

        int findLaw(int i) {
            int laws = 0;
            for (int index = 0; index < pool.words.count; index++) {
                if (isLaw(index)) {
                    if (laws == i) {
                        return index;
                    }
                    laws++;
                }
            }
            return -1;
        }

        /** The heap becomes the one that is CLOSED by FALLING by a depth: 0, or why not. */
        int gatherFallen(Machine machine, int depth) {
            if (depth < 1 || depth > MOST_DEPTH) {
                return NUMBER;
            }
            if (!machine.whole) {
                return STATE;
            }
            if (asked != FALLEN + depth) {
                asked = FALLEN + depth;
                beginWithEmpty();
                fits = extend(machine, 0) && pool.followParts(machine);
                fallenCount = Math.min(pool.words.count, MOST_FALLEN);
                for (int i = 0; i < fallenCount; i++) {
                    fallenWords[i] = i;
                }
                for (int i = 0; i < fallenCount && i < MOST_FALLEN && fits; i++) {
                    fits = lookAtParts(machine, fallenWords[i], depth) && addUnlike();
                }
            }
            return fits ? 0 : SPENT;
        }

        /**
         * All PARTS that one word of the heap leads to are looked at before the first of them comes:
         * which ones these are does not hang on that, and being SPENT is one answer for all causes.
         */
        private boolean lookAtParts(Machine machine, int index, int depth) {
            int firsts = depth == 1 ? 1 : machine.letters;
            lookedCount = 0;
            for (int k = 0; k < machine.markCount; k++) {
                pool.load(index, word);
                if (!word.push(machine.marks[k])) {
                    return false;
                }
                for (int first = 0; first < firsts; first++) {
                    for (int last = 0; last < machine.letters; last++) {
                        part.copy(word);
                        if (depth > 1) {
                            part.descend(machine, first);
                        }
                        part.descend(machine, last);
                        int taken = pool.take(machine, part);
                        if (taken < 0) {
                            return false;
                        }
                        looked[lookedCount++] = taken;
                    }
                }
            }
            return true;
        }

        private boolean addUnlike() {
            pool.classify();
            Arrays.fill(hasKind, 0);
            for (int i = 0; i < fallenCount; i++) {
                hasKind[pool.kindOf[fallenWords[i]]] = 1;
            }
            for (int i = 0; i < lookedCount; i++) {
                int kind = pool.kindOf[looked[i]];
                if (hasKind[kind] == 0) {
                    if (fallenCount >= MOST_FALLEN) {
                        return false;
                    }
                    hasKind[kind] = 1;
                    fallenWords[fallenCount++] = looked[i];
                }
            }
            return true;
        }
    }
}
