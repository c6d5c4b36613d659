/**
 * A screen for a stream of bytes with control sequences, what scrolls off it, and a copy of it
 * that is brought up to date from time to time.
 */
public final class TerminalStack {
    public static final int BAD = -1;

    private static final int ROWS = 6;
    private static final int COLUMNS = 12;
    private static final int LAST_ROW = ROWS - 1;
    private static final int LAST_COLUMN = COLUMNS - 1;
    private static final int CELLS = ROWS * COLUMNS;
    private static final int TAB = 4;

    // A cell is one number, sign + 128 * style, so that two cells are compared at once and the
    // answer of shown() is the cell itself.
    private static final int STYLE_UNIT = 128;
    private static final int SIGN_MASK = 127;
    private static final int EMPTY = 32;

    private static final int KEPT_ROWS = 8;
    private static final int KEPT_CELLS = KEPT_ROWS * COLUMNS;

    private static final int NUMBERS = 4;
    private static final int GREATEST_NUMBER = 99;

    private static final int LAST_BYTE = 127;
    private static final int LAST_TRIPLE = 2097151;
    private static final int BACK = 8;
    private static final int NEXT_TAB = 9;
    private static final int LINE_FEED = 10;
    private static final int RETURN = 13;
    private static final int ESCAPE = 27;

    private static final int OUTSIDE = 0;
    private static final int BEGUN = 1;
    private static final int OPENED = 2;

    private final int[] cells = new int[CELLS];
    private final int[] asideCells = new int[CELLS];
    private final int[] shownCells = new int[CELLS];
    // The row lost last comes first.
    private final int[] keptSigns = new int[KEPT_CELLS];
    private final int[] numbers = new int[NUMBERS];

    private int cursorRow;
    private int cursorColumn;
    private int penStyle;
    private int top;
    private int bottom;
    private boolean insertOn;
    private boolean wrapOn;
    private boolean otherOn;
    private boolean waiting;

    private int savedRow;
    private int savedColumn;
    private int savedPen;

    private int asideRow;
    private int asideColumn;
    private int asideTop;
    private int asideBottom;

    private int keptCount;

    private int sequenceState;
    private boolean markAllowed;
    private boolean marked;
    // Stops growing at NUMBERS: from there on every number is one too many.
    private int separators;

    public TerminalStack() {
        startAnew();
        for (int at = 0; at < CELLS; at++) {
            shownCells[at] = EMPTY;
        }
    }

    public boolean feed(int b) {
        if (b < 0 || b > LAST_BYTE) {
            return false;
        }
        take(b);
        return true;
    }

    public boolean feedThree(int bytes) {
        if (bytes < 0 || bytes > LAST_TRIPLE) {
            return false;
        }
        take(bytes & 127);
        take((bytes >> 7) & 127);
        take(bytes >> 14);
        return true;
    }

    public int sign(int row, int column) {
        if (!onScreen(row, column)) {
            return BAD;
        }
        return cells[row * COLUMNS + column] & SIGN_MASK;
    }

    public int style(int row, int column) {
        if (!onScreen(row, column)) {
            return BAD;
        }
        return cells[row * COLUMNS + column] / STYLE_UNIT;
    }

    public int row() {
        return cursorRow;
    }

    public int column() {
        return cursorColumn;
    }

    public boolean waits() {
        return waiting;
    }

    public int pen() {
        return penStyle;
    }

    public int region() {
        return top + 10 * bottom;
    }

    public int modes() {
        return (insertOn ? 1 : 0) + (wrapOn ? 2 : 0) + (otherOn ? 4 : 0);
    }

    public int sequence() {
        return sequenceState;
    }

    public int keptRows() {
        return keptCount;
    }

    public int kept(int i, int column) {
        if (i < 0 || i >= keptCount || column < 0 || column > LAST_COLUMN) {
            return BAD;
        }
        return keptSigns[i * COLUMNS + column];
    }

    public int refresh() {
        int changed = 0;
        for (int at = 0; at < CELLS; at++) {
            if (shownCells[at] != cells[at]) {
                shownCells[at] = cells[at];
                changed++;
            }
        }
        return changed;
    }

    public int shown(int row, int column) {
        if (!onScreen(row, column)) {
            return BAD;
        }
        return shownCells[row * COLUMNS + column];
    }

    public int stale() {
        int different = 0;
        for (int at = 0; at < CELLS; at++) {
            if (shownCells[at] != cells[at]) {
                different++;
            }
        }
        return different;
    }

    private static boolean onScreen(int row, int column) {
        return row >= 0 && row <= LAST_ROW && column >= 0 && column <= LAST_COLUMN;
    }

    private static int lesser(int a, int b) {
        return a < b ? a : b;
    }

    private static int greater(int a, int b) {
        return a > b ? a : b;
    }

    // What is shown stays: 27 c, which comes here too, leaves it alone.
    private void startAnew() {
        clear(0, CELLS);
        cursorRow = 0;
        cursorColumn = 0;
        penStyle = 0;
        top = 0;
        bottom = LAST_ROW;
        insertOn = false;
        wrapOn = true;
        otherOn = false;
        waiting = false;
        savedRow = 0;
        savedColumn = 0;
        savedPen = 0;
        keptCount = 0;
        sequenceState = OUTSIDE;
    }

    private void take(int b) {
        if (b == ESCAPE) {
            sequenceState = BEGUN;
        } else if (sequenceState == BEGUN) {
            takeSecond(b);
        } else if (sequenceState == OPENED) {
            takeInside(b);
        } else if (b >= 32 && b <= 126) {
            putSign(b);
        } else {
            takeControl(b);
        }
    }

    private void putSign(int b) {
        if (waiting) {
            cursorColumn = 0;
            lineFeed();
        }
        waiting = false;
        int at = cursorRow * COLUMNS + cursorColumn;
        if (insertOn) {
            moveOn(at, (cursorRow + 1) * COLUMNS, 1);
        }
        cells[at] = b + STYLE_UNIT * penStyle;
        if (cursorColumn == LAST_COLUMN) {
            waiting = wrapOn;
        } else {
            cursorColumn++;
        }
    }

    private void takeControl(int b) {
        switch (b) {
            case BACK:
                cursorColumn = greater(cursorColumn - 1, 0);
                break;
            case NEXT_TAB:
                cursorColumn = lesser((cursorColumn / TAB + 1) * TAB, LAST_COLUMN);
                break;
            case LINE_FEED:
                lineFeed();
                break;
            case RETURN:
                cursorColumn = 0;
                break;
            default:
                return;
        }
        waiting = false;
    }

    private void takeSecond(int b) {
        sequenceState = OUTSIDE;
        switch (b) {
            case '[':
                openSequence();
                return;
            case '7':
                saveCursor();
                return;
            case '8':
                restoreCursor();
                break;
            case 'D':
                lineFeed();
                break;
            case 'E':
                cursorColumn = 0;
                lineFeed();
                break;
            case 'M':
                reverseLineFeed();
                break;
            case 'c':
                startAnew();
                break;
            default:
                return;
        }
        waiting = false;
    }

    private void openSequence() {
        sequenceState = OPENED;
        markAllowed = true;
        marked = false;
        separators = 0;
        for (int i = 0; i < NUMBERS; i++) {
            numbers[i] = 0;
        }
    }

    private void takeInside(int b) {
        boolean first = markAllowed;
        markAllowed = false;
        if (b >= '0' && b <= '9') {
            addDigit(b - '0');
        } else if (b == ';') {
            separators = lesser(separators + 1, NUMBERS);
        } else if (b == '?' && first) {
            marked = true;
        } else {
            sequenceState = OUTSIDE;
            if (b >= 64 && b <= 126) {
                if (marked) {
                    runMarked(b);
                } else {
                    runPlain(b);
                }
            }
        }
    }

    private void addDigit(int digit) {
        if (separators < NUMBERS) {
            numbers[separators] = lesser(numbers[separators] * 10 + digit, GREATEST_NUMBER);
        }
    }

    private void runPlain(int last) {
        int n = greater(numbers[0], 1);
        int rowStart = cursorRow * COLUMNS;
        int rowEnd = rowStart + COLUMNS;
        int at = rowStart + cursorColumn;
        switch (last) {
            // m, h and l return at once, since they leave WAITS as it is.
            case 'm': changePen(); return;
            case 'h': switchInsert(true); return;
            case 'l': switchInsert(false); return;

            case 'A': moveUp(n); break;
            case 'B': moveDown(n); break;
            case 'C': cursorColumn = lesser(cursorColumn + n, LAST_COLUMN); break;
            case 'D': cursorColumn = greater(cursorColumn - n, 0); break;
            case 'G': cursorColumn = lesser(n - 1, LAST_COLUMN); break;
            case 'd': cursorRow = lesser(n - 1, LAST_ROW); break;
            case 'H': moveToPlace(); break;
            case 'J': erase(0, CELLS); break;
            case 'K': erase(rowStart, rowEnd); break;
            case 'X': eraseSome(n); break;
            case 'P': moveBack(at, rowEnd, n); break;
            case '@': moveOn(at, rowEnd, n); break;
            case 'L': putInRows(n); break;
            case 'M': takeOutRows(n); break;
            case 'S': scrollUp(n); break;
            case 'T': scrollDown(n); break;
            case 'r': setRegion(); break;
            default: return;
        }
        waiting = false;
    }

    private void runMarked(int last) {
        if (last != 'h' && last != 'l') {
            return;
        }
        boolean on = last == 'h';
        if (numbers[0] == 7) {
            wrapOn = on;
        } else if (numbers[0] == 49 && on != otherOn) {
            if (on) {
                putAside();
            } else {
                bringBack();
            }
            otherOn = on;
            waiting = false;
        }
    }

    private void putAside() {
        for (int at = 0; at < CELLS; at++) {
            asideCells[at] = cells[at];
            cells[at] = EMPTY;
        }
        asideRow = cursorRow;
        asideColumn = cursorColumn;
        asideTop = top;
        asideBottom = bottom;
        cursorRow = 0;
        cursorColumn = 0;
        top = 0;
        bottom = LAST_ROW;
    }

    private void bringBack() {
        for (int at = 0; at < CELLS; at++) {
            cells[at] = asideCells[at];
        }
        cursorRow = asideRow;
        cursorColumn = asideColumn;
        top = asideTop;
        bottom = asideBottom;
    }

    private void changePen() {
        int count = lesser(separators + 1, NUMBERS);
        for (int i = 0; i < count; i++) {
            switch (numbers[i]) {
                case 0: penStyle = 0; break;
                case 1: penStyle |= 1; break;
                case 4: penStyle |= 2; break;
                case 7: penStyle |= 4; break;
                case 22: penStyle &= ~1; break;
                case 24: penStyle &= ~2; break;
                case 27: penStyle &= ~4; break;
                default: break;
            }
        }
    }

    private void switchInsert(boolean on) {
        if (numbers[0] == 4) {
            insertOn = on;
        }
    }

    private void saveCursor() {
        savedRow = cursorRow;
        savedColumn = cursorColumn;
        savedPen = penStyle;
    }

    private void restoreCursor() {
        cursorRow = savedRow;
        cursorColumn = savedColumn;
        penStyle = savedPen;
    }

    // A cursor below the region stops at its top too; only one above it can pass on to row 0.
    private void moveUp(int n) {
        int limit = cursorRow < top ? 0 : top;
        cursorRow = greater(cursorRow - n, limit);
    }

    private void moveDown(int n) {
        int limit = cursorRow > bottom ? LAST_ROW : bottom;
        cursorRow = lesser(cursorRow + n, limit);
    }

    private void moveToPlace() {
        int line = greater(numbers[0], 1);
        int place = greater(numbers[1], 1);
        cursorRow = lesser(line - 1, LAST_ROW);
        cursorColumn = lesser(place - 1, LAST_COLUMN);
    }

    private void setRegion() {
        int first = greater(numbers[0], 1);
        int last = numbers[1] == 0 ? ROWS : numbers[1];
        if (first < last && last <= ROWS) {
            top = first - 1;
            bottom = last - 1;
            cursorRow = 0;
            cursorColumn = 0;
        }
    }

    private void erase(int start, int end) {
        int at = cursorRow * COLUMNS + cursorColumn;
        switch (numbers[0]) {
            case 0: clear(at, end); break;
            case 1: clear(start, at + 1); break;
            case 2: clear(start, end); break;
            default: break;
        }
    }

    private void eraseSome(int n) {
        int rowStart = cursorRow * COLUMNS;
        int endColumn = lesser(cursorColumn + n, COLUMNS);
        clear(rowStart + cursorColumn, rowStart + endColumn);
    }

    private void putInRows(int n) {
        if (cursorRow >= top && cursorRow <= bottom) {
            moveOn(cursorRow * COLUMNS, (bottom + 1) * COLUMNS, n * COLUMNS);
            cursorColumn = 0;
        }
    }

    private void takeOutRows(int n) {
        if (cursorRow >= top && cursorRow <= bottom) {
            moveBack(cursorRow * COLUMNS, (bottom + 1) * COLUMNS, n * COLUMNS);
            cursorColumn = 0;
        }
    }

    private void lineFeed() {
        if (cursorRow == bottom) {
            scrollUp(1);
        } else if (cursorRow < LAST_ROW) {
            cursorRow++;
        }
    }

    private void reverseLineFeed() {
        if (cursorRow == top) {
            scrollDown(1);
        } else if (cursorRow > 0) {
            cursorRow--;
        }
    }

    // Row by row, not in one move: every lost row is kept, also the empty ones that came in
    // on the way.
    private void scrollUp(int n) {
        for (int i = 0; i < n; i++) {
            if (!otherOn && top == 0) {
                keepFirstRow();
            }
            moveBack(top * COLUMNS, (bottom + 1) * COLUMNS, COLUMNS);
        }
    }

    private void scrollDown(int n) {
        moveOn(top * COLUMNS, (bottom + 1) * COLUMNS, n * COLUMNS);
    }

    private void keepFirstRow() {
        for (int at = KEPT_CELLS - 1; at >= COLUMNS; at--) {
            keptSigns[at] = keptSigns[at - COLUMNS];
        }
        for (int at = 0; at < COLUMNS; at++) {
            keptSigns[at] = cells[at] & SIGN_MASK;
        }
        if (keptCount < KEPT_ROWS) {
            keptCount++;
        }
    }

    private void clear(int start, int end) {
        for (int at = start; at < end; at++) {
            cells[at] = EMPTY;
        }
    }

    // Rows lie one behind the other, so a move by whole rows is a move by cells as well.
    private void moveBack(int start, int end, int by) {
        for (int at = start; at < end; at++) {
            cells[at] = at + by < end ? cells[at + by] : EMPTY;
        }
    }

    private void moveOn(int start, int end, int by) {
        for (int at = end - 1; at >= start; at--) {
            cells[at] = at - by >= start ? cells[at - by] : EMPTY;
        }
    }
}
