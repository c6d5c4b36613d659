/** Promises 6, 7 and 9: the sequences that move the cursor, and those that keep it and the pen. */
public final class CursorTest {
    private static final String[] COUNTS = {"", "0", "1", "2", "3", "5", "6", "7", "10", "11", "12", "13", "98", "99", "100"};

    /** What n is in a sequence with this number: 'p, or 1 when p is 0'. */
    private static int n(String number) {
        return number.isEmpty() || number.equals("0") ? 1 : Math.min(Integer.parseInt(number), 99);
    }

    private static String place(int row, int column) {
        return (row + 1) + ";" + (column + 1) + "H";
    }

    /** after has a digit a row: the row in which a cursor from rows 0 .. 5 ends. */
    private static void rows(String region, String sequence, String after) {
        for (int row = 0; row < 6; row++) {
            Probe probe = new Probe().csi(region + "r").csi(place(row, 4)).csi(sequence);
            Check.due("region " + region + ", from row " + row + ", " + sequence, probe.cursor(), after.charAt(row) + ",4");
        }
    }

    /** 'A n rows up, at most to the top of the region, or to row 0 when the cursor is above the region'; from below it, to its top. */
    private static void up() {
        String[][] runs = {
            {"1;6", "", "001234"}, {"1;6", "0", "001234"}, {"1;6", "1", "001234"}, {"1;6", "2", "000123"}, {"1;6", "3", "000012"},
            {"1;6", "4", "000001"}, {"1;6", "5", "000000"}, {"1;6", "6", "000000"}, {"1;6", "99", "000000"}, {"1;6", "100", "000000"},
            {"2;5", "", "011234"}, {"2;5", "0", "011234"}, {"2;5", "1", "011234"}, {"2;5", "2", "011123"}, {"2;5", "3", "011112"},
            {"2;5", "4", "011111"}, {"2;5", "5", "011111"}, {"2;5", "99", "011111"},
            {"3;4", "1", "002234"}, {"3;4", "2", "002223"}, {"3;4", "3", "002222"}, {"3;4", "4", "002222"}, {"3;4", "99", "002222"},
            {"4;5", "1", "001334"}, {"4;5", "2", "000333"}, {"4;5", "3", "000333"}, {"4;5", "99", "000333"},
            {"5;6", "1", "001244"}, {"5;6", "2", "000144"}, {"5;6", "3", "000044"}, {"5;6", "99", "000044"},
            {"1;2", "1", "001234"}, {"1;2", "4", "000001"}, {"1;2", "5", "000000"}, {"1;2", "99", "000000"},
        };
        for (String[] run : runs) {
            rows(run[0], run[1] + "A", run[2]);
        }
    }

    /** 'B n rows down, at most to the bottom of the region, or to row 5 when it is below the region'; from above it, to its bottom. */
    private static void down() {
        String[][] runs = {
            {"1;6", "", "123455"}, {"1;6", "0", "123455"}, {"1;6", "1", "123455"}, {"1;6", "2", "234555"}, {"1;6", "3", "345555"},
            {"1;6", "4", "455555"}, {"1;6", "5", "555555"}, {"1;6", "6", "555555"}, {"1;6", "99", "555555"}, {"1;6", "100", "555555"},
            {"2;5", "", "123445"}, {"2;5", "0", "123445"}, {"2;5", "1", "123445"}, {"2;5", "2", "234445"}, {"2;5", "3", "344445"},
            {"2;5", "4", "444445"}, {"2;5", "5", "444445"}, {"2;5", "99", "444445"},
            {"3;4", "1", "123355"}, {"3;4", "2", "233355"}, {"3;4", "3", "333355"}, {"3;4", "4", "333355"}, {"3;4", "99", "333355"},
            {"1;2", "1", "113455"}, {"1;2", "2", "114555"}, {"1;2", "3", "115555"}, {"1;2", "4", "115555"}, {"1;2", "99", "115555"},
            {"1;3", "1", "122455"}, {"1;3", "2", "222555"}, {"1;3", "99", "222555"},
            {"5;6", "1", "123455"}, {"5;6", "4", "455555"}, {"5;6", "5", "555555"}, {"5;6", "99", "555555"},
        };
        for (String[] run : runs) {
            rows(run[0], run[1] + "B", run[2]);
        }
    }

    /** 'C n columns right, at most to 11. D n columns left, at most to 0.' */
    private static void alongTheRow() {
        for (int column = 0; column < 12; column++) {
            for (String count : COUNTS) {
                String from = " from column " + column;
                int right = Math.min(column + n(count), 11);
                int left = Math.max(column - n(count), 0);
                Check.due(count + "C" + from, new Probe().csi("2;3r").csi(place(4, column)).csi(count + "C").cursor(), "4," + right);
                Check.due(count + "D" + from, new Probe().csi("2;3r").csi(place(4, column)).csi(count + "D").cursor(), "4," + left);
            }
        }
    }

    /** 'G column n - 1, at most 11. d row n - 1, at most 5', the region being no bound. */
    private static void columnAndRow() {
        for (String region : new String[] {"1;6", "2;4", "4;5"}) {
            for (String count : COUNTS) {
                for (String from : new String[] {"1;1", "4;6", "6;12"}) {
                    Probe probe = new Probe().csi(region + "r").csi(from + "H");
                    int row = probe.row();
                    int column = Math.min(n(count) - 1, 11);
                    Check.due(count + "G from " + from, probe.csi(count + "G").cursor(), row + "," + column);
                    Check.due(count + "d from " + from, probe.csi(count + "d").cursor(), Math.min(n(count) - 1, 5) + "," + column);
                }
            }
        }
    }

    /** 'H row p - 1 and column q - 1 (0 counts as 1), at most 5 and 11.' */
    private static void toPlaces() {
        String[] rows = {"", "0", "1", "2", "5", "6", "7", "99", "100"};
        for (String p : rows) {
            for (String q : COUNTS) {
                String due = Math.min(n(p) - 1, 5) + "," + Math.min(n(q) - 1, 11);
                Check.due(p + ";" + q + "H", new Probe().csi("2;4r").csi("3;4H").csi(p + ";" + q + "H").cursor(), due);
            }
            Check.due(p + "H", new Probe().csi("2;4r").csi("3;4H").csi(p + "H").cursor(), Math.min(n(p) - 1, 5) + ",0");
        }
    }

    /** These move the cursor and nothing else: back in its place, all is as before. */
    private static void movesTouchNothing() {
        for (String move : new String[] {"A", "9A", "B", "9B", "C", "99C", "D", "99D", "G", "99G", "d", "99d", "H", "99;99H"}) {
            Twins.alikeAt("4;6", "\u001b[" + move + "\u001b[4;6H");
        }
    }

    /** At the bound itself there is nowhere to go. */
    private static void atTheBound() {
        Twins.alikeAt("1;6", "\u001b[A", "\u001b[99A", "\u001b[d", "\u001b[1d");
        Twins.alikeAt("6;6", "\u001b[B", "\u001b[99B", "\u001b[6d", "\u001b[7d", "\u001b[99d");
        Twins.alikeAt("4;12", "\u001b[C", "\u001b[99C", "\u001b[12G", "\u001b[13G", "\u001b[99G");
        Twins.alikeAt("4;1", "\u001b[D", "\u001b[99D", "\u001b[G", "\u001b[1G");
        Twins.alikeAt("6;12", "\u001b[6;12H", "\u001b[7;13H", "\u001b[99;99H");
        Twins.alikeAt("1;1", "\u001b[H", "\u001b[0;0H", "\u001b[1;1H");
    }

    /** 'a KEPT cursor and pen (0, 0 and 0 at first)'. */
    private static void keptAtFirst() {
        Probe probe = new Probe().csi("6;12H").csi("1;4;7m").esc("8");
        Check.due("27 8 without a 27 7, cursor", probe.cursor(), "0,0");
        Check.due("27 8 without a 27 7, pen", probe.pen(), 0);
    }

    /** '27 7 the cursor and the pen are kept. 27 8 cursor and pen become those kept.' */
    private static void keptCursor() {
        for (int row = 0; row < 6; row++) {
            for (int column = 0; column < 12; column++) {
                Probe probe = new Probe().csi(place(row, column)).csi("1;7m").esc("7");
                String due = row + "," + column;
                Check.due("27 7 leaves the cursor", probe.cursor(), due);
                Check.due("27 7 leaves the pen", probe.pen(), 5);
                probe.csi(place(5 - row, 11 - column)).csi("0;4m").esc("8");
                Check.due("27 8, cursor", probe.cursor(), due);
                Check.due("27 8, pen", probe.pen(), 5);
                probe.csi("2;3r").csi("m").esc("8");
                Check.due("27 8 again, whatever the region", probe.cursor(), due);
                Check.due("27 8 again, pen", probe.pen(), 5);
                Check.due("27 8 leaves the region", probe.region(), 21);
            }
        }
    }

    private static void keptAgain() {
        Probe probe = new Probe().csi("2;3H").csi("1m").esc("7").csi("4;5H").csi("4m").esc("7").csi("H").csi("m").esc("8");
        Check.due("the second 27 7 counts, cursor", probe.cursor(), "3,4");
        Check.due("the second 27 7 counts, pen", probe.pen(), 3);
        probe.fillRows().csi("S").csi("?7l").csi("4h").esc("8");
        Check.due("what is kept does not scroll", probe.cursor(), "3,4");
        Check.due("modes are not kept", probe.modes(), 1);
        Check.due("27 8 writes nothing", probe.firstSigns(), "bcdef.");
    }

    public static void main(String[] args) {
        up();
        down();
        alongTheRow();
        columnAndRow();
        toPlaces();
        movesTouchNothing();
        atTheBound();
        keptAtFirst();
        keptCursor();
        keptAgain();
        Check.end();
    }
}
