/** Promises 4 and 5: J, K, X, P and @, in every column, with the last number inside the row and the first beyond it. */
public final class EraseTest {
    private static final String[] COUNTS = {"", "0", "1", "2", "3", "10", "11", "12", "13", "98", "99", "100"};
    private static final int[] ROWS = {0, 3, 5};

    private static String dots(int count) {
        return ".".repeat(count);
    }

    /** The row of the cursor is due as given, all others as they were, and the cursor and pen too. */
    private static void inItsRow(String sequence, int row, int column, String signs) {
        String[] due = Full.SIGNS.clone();
        due[row] = signs;
        onTheScreen(sequence, row, column, due);
    }

    /** The region has no say here, be the cursor in it or not. */
    private static void onTheScreen(String sequence, int row, int column, String[] due) {
        for (String region : new String[] {"1;6", "2;3"}) {
            Probe probe = Full.screen(region, row, column).csi(sequence);
            String what = "region " + region + ", " + sequence + " in " + row + ", " + column;
            Full.cellsDue(what, probe, due);
            Check.due(what + ", cursor", probe.cursor(), row + "," + column);
            Check.due(what + ", pen", probe.pen(), 6);
            Check.due(what + ", rows kept", probe.keptRows(), 0);
        }
    }

    /** 'p = 0 the cursor's and all behind it in its row, and all rows below; 1 all rows above, and .. all up to the cursor's; 2 all'. */
    private static void screen() {
        for (int row = 0; row < 6; row++) {
            for (int column : new int[] {0, 1, 5, 10, 11}) {
                String[] behind = Full.SIGNS.clone();
                String[] before = Full.SIGNS.clone();
                String[] all = Full.SIGNS.clone();
                for (int other = 0; other < 6; other++) {
                    all[other] = dots(12);
                    behind[other] = other > row ? dots(12) : behind[other];
                    before[other] = other < row ? dots(12) : before[other];
                }
                behind[row] = behind[row].substring(0, column) + dots(12 - column);
                before[row] = dots(column + 1) + before[row].substring(column + 1);
                onTheScreen("J", row, column, behind);
                onTheScreen("0J", row, column, behind);
                onTheScreen("1J", row, column, before);
                onTheScreen("2J", row, column, all);
            }
        }
    }

    /** 'K likewise, in the cursor's row only'. */
    private static void row() {
        for (int row : ROWS) {
            for (int column = 0; column < 12; column++) {
                String signs = Full.SIGNS[row];
                inItsRow("K", row, column, signs.substring(0, column) + dots(12 - column));
                inItsRow("0K", row, column, signs.substring(0, column) + dots(12 - column));
                inItsRow("1K", row, column, dots(column + 1) + signs.substring(column + 1));
                inItsRow("2K", row, column, dots(12));
            }
        }
    }

    /** 'other p none'; q does not count. */
    private static void otherNumbers() {
        String[] others = {"3", "4", "5", "9", "10", "11", "12", "20", "21", "22", "98", "99", "100", "101", "102", "256", "258", "3;0", "3;1",
            "3;2"};
        for (String p : others) {
            inItsRow(p + "J", 2, 5, Full.SIGNS[2]);
            inItsRow(p + "K", 2, 5, Full.SIGNS[2]);
            Twins.alikeAt("4;6", "\u001b[" + p + "J", "\u001b[" + p + "K");
        }
        inItsRow("0;2K", 2, 5, "01234.......");
        inItsRow(";1K", 2, 5, "01234.......");
        inItsRow("1;2K", 2, 5, "......678901");
    }

    /** How many cells a number means, from a column to the end of the row at most; 'n is p, or 1 when p is 0'. */
    private static int cells(String count, int column) {
        int n = count.isEmpty() || count.equals("0") ? 1 : Integer.parseInt(count);
        return Math.min(n, 12 - column);
    }

    /** 'X n cells from the cursor on, in its row', 'P .. empty ones come in at its end', '@ .. those beyond the end are lost'. */
    private static void someCells() {
        for (int row : ROWS) {
            for (int column = 0; column < 12; column++) {
                for (String count : COUNTS) {
                    String signs = Full.SIGNS[row];
                    String before = signs.substring(0, column);
                    int n = cells(count, column);
                    inItsRow(count + "X", row, column, before + dots(n) + signs.substring(column + n));
                    inItsRow(count + "P", row, column, before + signs.substring(column + n) + dots(n));
                    inItsRow(count + "@", row, column, before + dots(n) + signs.substring(column, 12 - n));
                }
            }
        }
    }

    /** Just up to the end of the row, one less and one more, in numbers. */
    private static void upToTheEnd() {
        inItsRow("8X", 0, 3, "abc........l");
        inItsRow("9X", 0, 3, "abc.........");
        inItsRow("10X", 0, 3, "abc.........");
        inItsRow("8P", 0, 3, "abcl........");
        inItsRow("9P", 0, 3, "abc.........");
        inItsRow("10P", 0, 3, "abc.........");
        inItsRow("8@", 0, 3, "abc........d");
        inItsRow("9@", 0, 3, "abc.........");
        inItsRow("10@", 0, 3, "abc.........");
    }

    /** An emptied cell is empty, whatever the pen: what a new screen shows is not stale then. */
    private static void emptyMeansStyleZero() {
        for (String sequence : new String[] {"2J", "2K", "99X", "99P", "99@", "99L", "99M", "99S", "99T"}) {
            Probe probe = new Probe().csi("1;4;7m").type("abc").csi("1G").csi(sequence);
            Check.due("stale after " + sequence, probe.stale(), 0);
            Check.due("pen after " + sequence, probe.pen(), 7);
        }
    }

    public static void main(String[] args) {
        screen();
        row();
        otherNumbers();
        someCells();
        upToTheEnd();
        emptyMeansStyleZero();
        Check.end();
    }
}
