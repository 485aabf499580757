/** What tests look at: all that can be asked of an object without changing it, its words, and rows. */
final class Look {
    private Look() {
    }

    static String at(SwitchTower x) {
        StringBuilder text = new StringBuilder();
        for (int what = 0; what < 4; what++) {
            text.append(x.many(what)).append(' ');
        }
        text.append("| ");
        for (int s = 0; s < x.many(1); s++) {
            text.append(x.of(s, 0, 2)).append(':');
            for (int letter = 0; letter < x.many(0); letter++) {
                text.append(x.of(s, letter, 0)).append('>').append(x.of(s, letter, 1)).append(' ');
            }
        }
        for (int r = 0; r < 4; r++) {
            text.append("| ");
            // A cell beyond the last one is asked for too: how many there are must show.
            for (int i = 0; i <= 40; i++) {
                text.append(x.told(r, i)).append(' ');
            }
        }
        for (int spot = 0; spot < 8; spot++) {
            text.append("| ").append(word(x, spot));
        }
        return text.toString();
    }

    /** The number that tells a ROW of these LETTERS. */
    static int row(String letters) {
        int row = 1;
        for (char letter : letters.toCharArray()) {
            row = 4 * row + (letter - '0');
        }
        return row;
    }

    static String word(SwitchTower x, int spot) {
        StringBuilder text = new StringBuilder();
        for (int i = 0; i < x.size(spot); i++) {
            text.append(i == 0 ? "" : " ").append(x.token(spot, i));
        }
        return text.toString();
    }
}
