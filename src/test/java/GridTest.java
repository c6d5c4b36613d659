/**
 * Every region, row and column with every sequence that is named and the numbers around each bound,
 * held against the model: the screen is full, so nothing can move unseen.
 */
public final class GridTest {
    private static final String[] NUMBERS = {"", "1", "2", "3", "4", "5", "6", "7", "11", "12", "13", "99", "100"};
    private static final String[] SHORT_ONES = {"7", "8", "D", "E", "M", "c"};
    private static final String[] ROW_MOVES = {"A", "B", "d", "L", "M", "S", "T"};
    private static final String[] COLUMN_MOVES = {"C", "D", "G", "X", "P", "@"};
    private static final String[] ERASERS = {"J", "K"};

    private static void both(String text) {
        Probe probe = new Probe().threes(text);
        Model model = new Model();
        text.chars().forEach(model::feed);
        Check.due(text.substring(Full.bytes().length()).replace("\u001b", " 27 "), probe.picture(), model.picture());
    }

    private static String at(int top, int bottom, int row, int column) {
        return Full.bytes() + "\u001b[" + (top + 1) + ";" + (bottom + 1) + "r\u001b[" + (row + 1) + ";" + (column + 1) + "H";
    }

    private static void withNumbers(String before, String[] lasts) {
        for (String last : lasts) {
            for (String number : NUMBERS) {
                both(before + "\u001b[" + number + last);
            }
        }
    }

    private static void rowsOfRegions(int top, int bottom) {
        for (int row = 0; row < 6; row++) {
            String before = at(top, bottom, row, 4);
            withNumbers(before, ROW_MOVES);
            withNumbers(before + "\u001b[?49h" + "xyz\u001b[" + (top + 1) + ";" + (bottom + 1) + "r", ROW_MOVES);
            for (String second : SHORT_ONES) {
                both(before + "\u001b" + second);
                both(at(top, bottom, row, 11) + "#\u001b" + second + "+");
            }
            both(before + "\n");
            both(at(top, bottom, row, 11) + "#+");
        }
    }

    private static void columns() {
        for (int row : new int[] {0, 2, 5}) {
            for (int column = 0; column < 12; column++) {
                String before = at(1, 3, row, column);
                withNumbers(before, COLUMN_MOVES);
                withNumbers(before, ERASERS);
                for (String bytes : new String[] {"\b", "\t", "\r", "#", "\u001b[4h#", "\u001b[?7l##", "\u001b[4h\u001b[?7l##", "##"}) {
                    both(before + bytes);
                }
            }
        }
    }

    public static void main(String[] args) {
        for (int top = 0; top < 5; top++) {
            for (int bottom = top + 1; bottom < 6; bottom++) {
                rowsOfRegions(top, bottom);
            }
        }
        columns();
        Check.end();
    }
}
