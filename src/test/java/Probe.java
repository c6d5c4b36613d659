/** A TerminalStack that is fed with text and asked for whole rows, within its 512 calls. */
final class Probe {
    private final TerminalStack stack = new TerminalStack();
    private int calls = 0;

    /** The object itself, for a call that has no shorthand here. */
    TerminalStack ask() {
        calls++;
        if (calls > 512) {
            throw new IllegalStateException("a test asks an object more than 512 times");
        }
        return stack;
    }

    Probe type(String text) {
        for (int i = 0; i < text.length(); i++) {
            Check.due("feed(" + (int) text.charAt(i) + ")", ask().feed(text.charAt(i)), true);
        }
        return this;
    }

    Probe bytes(int... bytes) {
        for (int b : bytes) {
            Check.due("feed(" + b + ")", ask().feed(b), true);
        }
        return this;
    }

    /** 27 and what comes behind it. */
    Probe esc(String rest) {
        return bytes(27).type(rest);
    }

    /** 27, 91 and what comes behind them. */
    Probe csi(String rest) {
        return esc("[" + rest);
    }

    /** Rows 0 .. 5 get the signs a .. f in column 0; the cursor ends in row 5. */
    Probe fillRows() {
        return type("a\r\nb\r\nc\r\nd\r\ne\r\nf");
    }

    /** The signs of a row, a dot for a blank one. */
    String line(int row) {
        StringBuilder text = new StringBuilder();
        for (int column = 0; column < 12; column++) {
            int sign = ask().sign(row, column);
            text.append(sign == 32 ? '.' : (char) sign);
        }
        return text.toString();
    }

    /** The styles of a row, a digit each. */
    String styles(int row) {
        StringBuilder text = new StringBuilder();
        for (int column = 0; column < 12; column++) {
            text.append(ask().style(row, column));
        }
        return text.toString();
    }

    /** The first sign of each row, a dot for a blank one. */
    String firstSigns() {
        StringBuilder text = new StringBuilder();
        for (int row = 0; row < 6; row++) {
            int sign = ask().sign(row, 0);
            text.append(sign == 32 ? '.' : (char) sign);
        }
        return text.toString();
    }

    /** The first sign of each row kept off the screen, the one lost last first. */
    String firstKept() {
        StringBuilder text = new StringBuilder();
        int count = ask().keptRows();
        for (int i = 0; i < count; i++) {
            int sign = ask().kept(i, 0);
            text.append(sign == 32 ? '.' : (char) sign);
        }
        return text.toString();
    }

    /** Row and column, and a W when WAITS is on. */
    String cursor() {
        return ask().row() + "," + ask().column() + (ask().waits() ? "W" : "");
    }
}
