/** What can be asked of a screen: of the program (Probe), and of the model that it is held against (Model). */
interface Screen {
    boolean feed(int b);

    boolean feedThree(int bytes);

    int sign(int row, int column);

    int style(int row, int column);

    int row();

    int column();

    boolean waits();

    int pen();

    int region();

    int modes();

    int sequence();

    int keptRows();

    int kept(int i, int column);

    int refresh();

    int shown(int row, int column);

    int stale();

    /** Row and column, and a W when WAITS is on. */
    default String cursor() {
        return row() + "," + column() + (waits() ? "W" : "");
    }

    /** The signs of a row, a dot for a blank one. */
    default String line(int row) {
        StringBuilder text = new StringBuilder();
        for (int column = 0; column < 12; column++) {
            text.append(letter(sign(row, column)));
        }
        return text.toString();
    }

    /** The styles of a row, a digit each. */
    default String styles(int row) {
        StringBuilder text = new StringBuilder();
        for (int column = 0; column < 12; column++) {
            text.append(style(row, column));
        }
        return text.toString();
    }

    /** The signs of a row that is kept off the screen, a dot for a blank one. */
    default String keptLine(int i) {
        StringBuilder text = new StringBuilder();
        for (int column = 0; column < 12; column++) {
            text.append(letter(kept(i, column)));
        }
        return text.toString();
    }

    /** The first sign of each row, a dot for a blank one. */
    default String firstSigns() {
        StringBuilder text = new StringBuilder();
        for (int row = 0; row < 6; row++) {
            text.append(letter(sign(row, 0)));
        }
        return text.toString();
    }

    /** The first sign of each row kept off the screen, the one lost last first. */
    default String firstKept() {
        StringBuilder text = new StringBuilder();
        int count = keptRows();
        for (int i = 0; i < count; i++) {
            text.append(letter(kept(i, 0)));
        }
        return text.toString();
    }

    /** Every answer but those of feed and refresh, in at most 324 calls: what two screens are compared by. */
    default String picture() {
        StringBuilder text = new StringBuilder();
        text.append("cursor ").append(cursor()).append(" pen ").append(pen()).append(" region ").append(region());
        text.append(" modes ").append(modes()).append(" sequence ").append(sequence()).append(" stale ").append(stale());
        for (int row = 0; row < 6; row++) {
            text.append("\n").append(line(row)).append(" ").append(styles(row)).append(" shown");
            for (int column = 0; column < 12; column++) {
                text.append(" ").append(shown(row, column));
            }
        }
        int count = keptRows();
        for (int i = 0; i < count; i++) {
            text.append("\nkept ").append(keptLine(i));
        }
        return text.append("\n").toString();
    }

    private static char letter(int sign) {
        return sign == 32 ? '.' : (char) sign;
    }
}
