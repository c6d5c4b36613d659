import java.math.BigInteger;
import java.util.ArrayList;
import java.util.Collections;
import java.util.LinkedList;
import java.util.List;
import java.util.regex.Matcher;
import java.util.regex.Pattern;

/**
 * The document once more, written sentence by sentence over the lists, texts and patterns of the
 * Java library. It shares no way of working with the program, so that one slip is not made twice.
 */
final class Model implements Screen {
    private static final Pattern OPEN = Pattern.compile("\u001b\\[\\??[0-9;]*");
    private static final Pattern WHOLE = Pattern.compile("\u001b\\[(\\??)([0-9;]*)([@-~])");
    private static final BigInteger GREATEST = BigInteger.valueOf(99);
    private static final String SHORT_ONES_THAT_END_WAITS = "8DEMc";
    private static final String LAST_BYTES_THAT_END_WAITS = "ABCDGdHJKXP@LMSTr";
    private static final int EMPTY = 32;

    private final List<Integer> shown = new ArrayList<>(Collections.nCopies(72, EMPTY));
    private List<List<Integer>> screen;
    private LinkedList<List<Integer>> kept;
    private String open;
    private int row;
    private int column;
    private int pen;
    private int top;
    private int bottom;
    private boolean insert;
    private boolean wrap;
    private boolean waits;
    private int[] keptCursorAndPen;
    /** Null while OTHER is off. */
    private List<List<Integer>> asideScreen;
    private int[] asideCursorAndRegion;

    Model() {
        allAsAtFirst();
    }

    private void allAsAtFirst() {
        kept = new LinkedList<>();
        open = "";
        pen = 0;
        insert = false;
        wrap = true;
        waits = false;
        keptCursorAndPen = new int[] {0, 0, 0};
        asideScreen = null;
        emptyScreen();
    }

    private void emptyScreen() {
        screen = new ArrayList<>();
        for (int i = 0; i < 6; i++) {
            screen.add(emptyRow());
        }
        row = 0;
        column = 0;
        top = 0;
        bottom = 5;
    }

    private static List<Integer> emptyRow() {
        return new ArrayList<>(Collections.nCopies(12, EMPTY));
    }

    @Override
    public boolean feed(int b) {
        if (b < 0 || b > 127) {
            return false;
        }
        String text = open + (char) b;
        if (b == 27) {
            open = "\u001b";
        } else if (open.isEmpty()) {
            outside(b);
        } else if (OPEN.matcher(text).matches()) {
            open = text;
        } else {
            open = "";
            end(text);
        }
        return true;
    }

    @Override
    public boolean feedThree(int bytes) {
        if (bytes < 0 || bytes > 2097151) {
            return false;
        }
        return feed(bytes % 128) && feed(bytes / 128 % 128) && feed(bytes / 16384);
    }

    private void outside(int b) {
        if (b >= 32 && b <= 126) {
            sign(b);
        } else if (b == 8) {
            column = column == 0 ? 0 : column - 1;
            waits = false;
        } else if (b == 9) {
            column = column < 4 ? 4 : column < 8 ? 8 : 11;
            waits = false;
        } else if (b == 10) {
            lineFeed();
            waits = false;
        } else if (b == 13) {
            column = 0;
            waits = false;
        }
    }

    private void sign(int b) {
        if (waits) {
            column = 0;
            lineFeed();
            waits = false;
        }
        List<Integer> cells = screen.get(row);
        if (insert) {
            cells.add(column, EMPTY);
            cells.remove(12);
        }
        cells.set(column, b + 128 * pen);
        if (column < 11) {
            column++;
        } else if (wrap) {
            waits = true;
        }
    }

    private void lineFeed() {
        if (row == bottom) {
            scrollUp(1);
        } else if (row != 5) {
            row++;
        }
    }

    private void scrollUp(int n) {
        for (int i = 0; i < n; i++) {
            List<Integer> lost = screen.remove(top);
            screen.add(bottom, emptyRow());
            if (asideScreen == null && top == 0) {
                kept.addFirst(lost);
            }
            if (kept.size() > 8) {
                kept.removeLast();
            }
        }
    }

    private void scrollDown(int n) {
        for (int i = 0; i < n; i++) {
            screen.remove(bottom);
            screen.add(top, emptyRow());
        }
    }

    private void end(String text) {
        Matcher whole = WHOLE.matcher(text);
        if (whole.matches()) {
            List<Integer> numbers = numbers(whole.group(2));
            char last = whole.group(3).charAt(0);
            if (whole.group(1).isEmpty()) {
                plain(last, numbers);
            } else {
                marked(last, numbers.get(0));
            }
        } else if (text.length() == 2) {
            shortOne(text.charAt(1));
        }
    }

    private static List<Integer> numbers(String written) {
        List<Integer> numbers = new ArrayList<>();
        for (String digits : written.split(";", -1)) {
            BigInteger number = digits.isEmpty() ? BigInteger.ZERO : new BigInteger(digits);
            numbers.add(number.min(GREATEST).intValue());
        }
        return numbers.size() > 4 ? numbers.subList(0, 4) : numbers;
    }

    private void shortOne(char second) {
        switch (second) {
            case '7' -> keptCursorAndPen = new int[] {row, column, pen};
            case '8' -> {
                row = keptCursorAndPen[0];
                column = keptCursorAndPen[1];
                pen = keptCursorAndPen[2];
            }
            case 'D' -> lineFeed();
            case 'E' -> {
                column = 0;
                lineFeed();
            }
            case 'M' -> {
                if (row == top) {
                    scrollDown(1);
                } else if (row != 0) {
                    row--;
                }
            }
            case 'c' -> allAsAtFirst();
            default -> { }
        }
        if (SHORT_ONES_THAT_END_WAITS.indexOf(second) >= 0) {
            waits = false;
        }
    }

    private void plain(char last, List<Integer> numbers) {
        int p = numbers.get(0);
        int q = numbers.size() > 1 ? numbers.get(1) : 0;
        int n = p == 0 ? 1 : p;
        boolean inRegion = row >= top && row <= bottom;
        switch (last) {
            case 'A' -> row = Math.max(row - n, row < top ? 0 : top);
            case 'B' -> row = Math.min(row + n, row > bottom ? 5 : bottom);
            case 'C' -> column = Math.min(column + n, 11);
            case 'D' -> column = Math.max(column - n, 0);
            case 'G' -> column = Math.min(n - 1, 11);
            case 'd' -> row = Math.min(n - 1, 5);
            case 'H' -> {
                row = Math.min(n - 1, 5);
                column = Math.min(q == 0 ? 0 : q - 1, 11);
            }
            case 'J' -> eraseScreen(p);
            case 'K' -> eraseRow(p);
            case 'X' -> emptyCells(row, column, column + n - 1);
            case 'P' -> takeOutCells(n);
            case '@' -> putInCells(n);
            case 'L' -> {
                for (int i = 0; inRegion && i < n; i++) {
                    screen.remove(bottom);
                    screen.add(row, emptyRow());
                }
                column = inRegion ? 0 : column;
            }
            case 'M' -> {
                for (int i = 0; inRegion && i < n; i++) {
                    screen.remove(row);
                    screen.add(bottom, emptyRow());
                }
                column = inRegion ? 0 : column;
            }
            case 'S' -> scrollUp(n);
            case 'T' -> scrollDown(n);
            case 'r' -> setRegion(n, q == 0 ? 6 : q);
            case 'm' -> numbers.forEach(this::changePen);
            case 'h' -> insert = insert || p == 4;
            case 'l' -> insert = insert && p != 4;
            default -> { }
        }
        if (LAST_BYTES_THAT_END_WAITS.indexOf(last) >= 0) {
            waits = false;
        }
    }

    private void eraseScreen(int p) {
        for (int other = 0; other < 6; other++) {
            boolean below = other > row && (p == 0 || p == 2);
            boolean above = other < row && (p == 1 || p == 2);
            if (below || above) {
                emptyCells(other, 0, 11);
            }
        }
        eraseRow(p);
    }

    private void eraseRow(int p) {
        if (p <= 2) {
            emptyCells(row, p == 0 ? column : 0, p == 1 ? column : 11);
        }
    }

    private void emptyCells(int where, int first, int last) {
        for (int i = first; i <= last && i < 12; i++) {
            screen.get(where).set(i, EMPTY);
        }
    }

    private void takeOutCells(int n) {
        for (int i = 0; i < n; i++) {
            screen.get(row).remove(column);
            screen.get(row).add(EMPTY);
        }
    }

    private void putInCells(int n) {
        for (int i = 0; i < n; i++) {
            screen.get(row).add(column, EMPTY);
            screen.get(row).remove(12);
        }
    }

    private void setRegion(int p, int q) {
        if (p < q && q <= 6) {
            top = p - 1;
            bottom = q - 1;
            row = 0;
            column = 0;
        }
    }

    private void changePen(int number) {
        switch (number) {
            case 0 -> pen = 0;
            case 1, 22 -> pen = number == 1 ? pen | 1 : pen & 6;
            case 4, 24 -> pen = number == 4 ? pen | 2 : pen & 5;
            case 7, 27 -> pen = number == 7 ? pen | 4 : pen & 3;
            default -> { }
        }
    }

    private void marked(char last, int p) {
        boolean on = last == 'h';
        if (!on && last != 'l') {
            return;
        }
        if (p == 7) {
            wrap = on;
        }
        if (p == 49 && on != (asideScreen != null)) {
            switchOther(on);
            waits = false;
        }
    }

    private void switchOther(boolean on) {
        if (on) {
            asideScreen = screen;
            asideCursorAndRegion = new int[] {row, column, top, bottom};
            emptyScreen();
        } else {
            screen = asideScreen;
            asideScreen = null;
            row = asideCursorAndRegion[0];
            column = asideCursorAndRegion[1];
            top = asideCursorAndRegion[2];
            bottom = asideCursorAndRegion[3];
        }
    }

    private static boolean there(int row, int rows, int column) {
        return row >= 0 && row < rows && column >= 0 && column < 12;
    }

    @Override
    public int sign(int r, int c) {
        return there(r, 6, c) ? screen.get(r).get(c) % 128 : -1;
    }

    @Override
    public int style(int r, int c) {
        return there(r, 6, c) ? screen.get(r).get(c) / 128 : -1;
    }

    @Override
    public int row() {
        return row;
    }

    @Override
    public int column() {
        return column;
    }

    @Override
    public boolean waits() {
        return waits;
    }

    @Override
    public int pen() {
        return pen;
    }

    @Override
    public int region() {
        return top + 10 * bottom;
    }

    @Override
    public int modes() {
        return (insert ? 1 : 0) + (wrap ? 2 : 0) + (asideScreen != null ? 4 : 0);
    }

    @Override
    public int sequence() {
        return Math.min(open.length(), 2);
    }

    @Override
    public int keptRows() {
        return kept.size();
    }

    @Override
    public int kept(int i, int c) {
        return there(i, kept.size(), c) ? kept.get(i).get(c) % 128 : -1;
    }

    @Override
    public int refresh() {
        int changed = stale();
        for (int i = 0; i < 72; i++) {
            shown.set(i, screen.get(i / 12).get(i % 12));
        }
        return changed;
    }

    @Override
    public int shown(int r, int c) {
        return there(r, 6, c) ? shown.get(12 * r + c) : -1;
    }

    @Override
    public int stale() {
        int different = 0;
        for (int i = 0; i < 72; i++) {
            different += shown.get(i).equals(screen.get(i / 12).get(i % 12)) ? 0 : 1;
        }
        return different;
    }
}
