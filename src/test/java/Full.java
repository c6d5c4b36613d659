/** A screen full of signs, each row with signs and a style of its own, so that no cell can change unseen. */
final class Full {
    /** The rows a .. f, as the tests call them by their place at first. */
    static final String[] SIGNS = {"abcdefghijkl", "ABCDEFGHIJKL", "012345678901", "mnopqrstuvwx", "MNOPQRSTUVWX", "!#$%&'()*+,-"};
    private static final String[] PENS = {"1", "4", "1;4", "7", "1;7", "4;7"};

    private Full() {
    }

    /** The bytes that fill a new screen; WAITS is on behind them, and the pen is 6. */
    static String bytes() {
        StringBuilder text = new StringBuilder();
        for (int row = 0; row < 6; row++) {
            text.append("\u001b[0;").append(PENS[row]).append("m").append(SIGNS[row]);
        }
        return text.toString();
    }

    /** A full screen with the cursor in a row and column, in a region written as for the last byte r. */
    static Probe screen(String region, int row, int column) {
        return new Probe().threes(bytes()).threes("\u001b[" + region + "r\u001b[" + (row + 1) + ";" + (column + 1) + "H");
    }

    /** The styles of a row at first, 0 where its signs are dots now. */
    private static String styles(int row, String signs) {
        StringBuilder text = new StringBuilder();
        for (int column = 0; column < 12; column++) {
            text.append(signs.charAt(column) == '.' ? 0 : row + 1);
        }
        return text.toString();
    }

    private static void rowDue(String what, Probe probe, int row, int from, String signs) {
        Check.due(what + ", signs of row " + row, probe.line(row), signs);
        Check.due(what + ", styles of row " + row, probe.styles(row), styles(from, signs));
    }

    /** The signs of all rows are due, each row with its style, empty cells with style 0. */
    static void cellsDue(String what, Probe probe, String[] signs) {
        for (int row = 0; row < 6; row++) {
            rowDue(what, probe, row, row, signs[row]);
        }
    }

    /** Whole rows are due, in an order like acd.ef; a dot is an empty row. */
    static void rowsDue(String what, Probe probe, String order) {
        for (int row = 0; row < 6; row++) {
            int from = order.charAt(row) == '.' ? 0 : order.charAt(row) - 'a';
            rowDue(what, probe, row, from, order.charAt(row) == '.' ? "............" : SIGNS[from]);
        }
    }

    /** Whole rows are due off the screen, the one lost last first. */
    static void keptDue(String what, Probe probe, String order) {
        Check.due(what + ", keptRows", probe.keptRows(), order.length());
        for (int i = 0; i < order.length(); i++) {
            char row = order.charAt(i);
            Check.due(what + ", kept row " + i, probe.keptLine(i), row == '.' ? "............" : SIGNS[row - 'a']);
        }
    }
}
