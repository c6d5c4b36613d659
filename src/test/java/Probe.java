/** A TerminalStack that is fed with text and asked within its 512 calls. */
final class Probe implements Screen {
    private final TerminalStack stack = new TerminalStack();
    private int calls = 0;

    /** The object itself, for one call. */
    TerminalStack ask() {
        calls++;
        if (calls > 512) {
            throw new IllegalStateException("a test asks an object more than 512 times");
        }
        return stack;
    }

    Probe type(String text) {
        for (int i = 0; i < text.length(); i++) {
            bytes(text.charAt(i));
        }
        return this;
    }

    Probe bytes(int... bytes) {
        for (int b : bytes) {
            Check.due("feed(" + b + ")", feed(b), true);
        }
        return this;
    }

    Probe three(int bytes) {
        Check.due("feedThree(" + bytes + ")", feedThree(bytes), true);
        return this;
    }

    /** The same as type, in a third of the calls. */
    Probe threes(String text) {
        int whole = text.length() / 3 * 3;
        for (int i = 0; i < whole; i += 3) {
            three(text.charAt(i) + 128 * text.charAt(i + 1) + 16384 * text.charAt(i + 2));
        }
        return type(text.substring(whole));
    }

    /** 27 and what comes behind it. */
    Probe esc(String rest) {
        return bytes(27).type(rest);
    }

    /** 27, 91 and what comes behind them. */
    Probe csi(String rest) {
        return esc("[" + rest);
    }

    /** Rows 0 .. 5 get the signs a .. f in column 0; the cursor ends in row 5. */
    Probe fillRows() {
        return type("a\r\nb\r\nc\r\nd\r\ne\r\nf");
    }

    @Override
    public boolean feed(int b) {
        return ask().feed(b);
    }

    @Override
    public boolean feedThree(int bytes) {
        return ask().feedThree(bytes);
    }

    @Override
    public int sign(int row, int column) {
        return ask().sign(row, column);
    }

    @Override
    public int style(int row, int column) {
        return ask().style(row, column);
    }

    @Override
    public int row() {
        return ask().row();
    }

    @Override
    public int column() {
        return ask().column();
    }

    @Override
    public boolean waits() {
        return ask().waits();
    }

    @Override
    public int pen() {
        return ask().pen();
    }

    @Override
    public int region() {
        return ask().region();
    }

    @Override
    public int modes() {
        return ask().modes();
    }

    @Override
    public int sequence() {
        return ask().sequence();
    }

    @Override
    public int keptRows() {
        return ask().keptRows();
    }

    @Override
    public int kept(int i, int column) {
        return ask().kept(i, column);
    }

    @Override
    public int refresh() {
        return ask().refresh();
    }

    @Override
    public int shown(int row, int column) {
        return ask().shown(row, column);
    }

    @Override
    public int stale() {
        return ask().stale();
    }
}
