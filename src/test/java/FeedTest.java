/** Promises 2 and 3, and the rows of 'Terms' for the bytes outside of a sequence, but for LINE FEED (LineFeedTest). */
public final class FeedTest {
    private static final String ROW = "abcdefghijkl";
    private static final String NEXT_ROW = "ABCDEFGHIJKL";

    /** 'b + 128 * c + 16384 * d, b first'. */
    private static void threeAtOnce() {
        Probe probe = new Probe();
        Check.due("feedThree a b c", probe.feedThree('a' + 128 * 'b' + 16384 * 'c'), true);
        Check.due("b first", probe.line(0), "abc.........");
        Check.due("feedThree(0)", probe.feedThree(0), true);
        Check.due("feedThree(2097151)", probe.feedThree(2097151), true);
        Check.due("three bytes that do nothing", probe.cursor(), "0,3");
        Check.due("feedThree 126 126 126", probe.feedThree(126 + 128 * 126 + 16384 * 126), true);
        Check.due("the greatest signs", probe.line(0), "abc~~~......");
        Check.due("feedThree 27 [ H", probe.feedThree(27 + 128 * '[' + 16384 * 'H'), true);
        Check.due("a whole sequence", probe.cursor(), "0,0");
        Check.due("feedThree x 27 [", probe.feedThree('x' + 128 * 27 + 16384 * '['), true);
        Check.due("the sequence stays open", probe.sequence(), 2);
    }

    /** Three bytes are always fed: a 0 is one too, and ends a sequence in any of the three places. */
    private static void threeWithZeros() {
        Check.due("0 27 [", new Probe().csi("3").three(0 + 128 * 27 + 16384 * '[').sequence(), 2);
        Check.due("0 C D", new Probe().csi("3").three(0 + 128 * 'C' + 16384 * 'D').line(0), "CD..........");
        Check.due("3 0 C", new Probe().csi("").three('3' + 128 * 0 + 16384 * 'C').line(0), "C...........");
        Check.due("27 [ 0", new Probe().three(27 + 128 * '[' + 16384 * 0).sequence(), 0);
        Check.due("27 0 0", new Probe().three(27).sequence(), 0);
        Check.due("0 0 0", new Probe().csi("3").three(0).sequence(), 0);
        Check.due("a 0 0", new Probe().three('a').line(0), "a...........");
        Check.due("0 a 0", new Probe().three(128 * 'a').line(0), "a...........");
        Check.due("0 0 a", new Probe().three(16384 * 'a').line(0), "a...........");
    }

    /** '32 .. 126 a sign': the first, the last and all between; one cell changes and no other. */
    private static void everySign() {
        for (int b = 32; b <= 126; b++) {
            Probe probe = new Probe().csi("3;6H").csi("1;7m").bytes(b);
            Check.due("sign " + b, probe.sign(2, 5), b);
            Check.due("style of sign " + b, probe.style(2, 5), 5);
            Check.due("cursor after sign " + b, probe.cursor(), "2,6");
            Check.due("cells changed by sign " + b, probe.stale(), 1);
            Check.due("sequence after sign " + b, probe.sequence(), 0);
        }
    }

    /** 'Other bytes do nothing.' */
    private static void otherBytes() {
        for (int b = 0; b <= 127; b++) {
            boolean named = b == 8 || b == 9 || b == 10 || b == 13 || b == 27 || b >= 32 && b <= 126;
            if (!named) {
                int other = b;
                Twins.alike("byte " + b, "", probe -> probe.bytes(other));
                Twins.alike("byte " + b, Twins.BUSY, probe -> probe.bytes(other));
                Twins.alike("byte " + b, Twins.BUSY_OTHER, probe -> probe.bytes(other));
            }
        }
    }

    /** 'The cell at the cursor gets the sign and the pen', with every pen. */
    private static void everyPen() {
        String[] pens = {"0", "1", "4", "1;4", "7", "1;7", "4;7", "1;4;7"};
        for (int pen = 0; pen < 8; pen++) {
            Probe probe = new Probe().type("a").csi("0;" + pens[pen] + "m").type("~").csi("m").type("b");
            Check.due("signs, pen " + pen, probe.line(0), "a~b.........");
            Check.due("styles, pen " + pen, probe.styles(0), "0" + pen + "0000000000");
        }
    }

    /** 'In column 11 WAITS is switched on if WRAP is on; else the column grows by 1.' */
    private static void signInEachColumn() {
        for (int column = 0; column < 12; column++) {
            String place = "3;" + (column + 1) + "H";
            String after = column == 11 ? "2,11" : "2," + (column + 1);
            Probe on = new Probe().csi(place).type("x");
            Check.due("WRAP on, a sign in column " + column, on.cursor(), column == 11 ? after + "W" : after);
            Probe off = new Probe().csi("?7l").csi(place).type("x");
            Check.due("WRAP off, a sign in column " + column, off.cursor(), after);
            Check.due("the sign stands in column " + column, on.sign(2, column), (int) 'x');
            Check.due("WRAP off, the sign stands in column " + column, off.sign(2, column), (int) 'x');
        }
    }

    /** 'if WAITS is on, first the column becomes 0 and a LINE FEED is done'. */
    private static void wrapping() {
        Probe probe = new Probe().type("abcdefghijk");
        Check.due("eleven signs", probe.cursor(), "0,11");
        probe.type("l");
        Check.due("twelve signs", probe.cursor(), "0,11W");
        probe.type("m");
        Check.due("thirteen signs", probe.cursor(), "1,1");
        Check.due("row 0", probe.line(0), "abcdefghijkl");
        Check.due("row 1", probe.line(1), "m...........");
        probe.csi("2;12H").type("n").csi("4m").type("o");
        Check.due("the pen may change while WAITS is on", probe.cursor(), "2,1");
        Check.due("styles of row 2", probe.styles(2), "200000000000");
        Probe without = new Probe().csi("12G").type("x").csi("12G").type("y");
        Check.due("in column 11 without WAITS nothing wraps", without.line(0), "...........y");
    }

    /** 'In column 11 WAITS is switched on if WRAP is on', but 'if WAITS is on' names WAITS alone: WRAP may be off by then. */
    private static void wrapOff() {
        Probe probe = new Probe();
        probe.csi("?7l").csi("12G").type("ab");
        Check.due("the column stays", probe.cursor(), "0,11");
        Check.due("written over", probe.line(0), "...........b");
        probe.csi("?7h").type("c");
        Check.due("WAITS with WRAP on", probe.cursor(), "0,11W");
        probe.csi("?7l");
        Check.due("WAITS stays when WRAP goes", probe.cursor(), "0,11W");
        probe.type("d");
        Check.due("WAITS is heeded with WRAP off", probe.cursor(), "1,1");
        Check.due("row 0", probe.line(0), "...........c");
        Check.due("row 1", probe.line(1), "d...........");
    }

    /** 'the cells of the row from the cursor on move one to the right, the last one being lost'. */
    private static void insertInEachColumn() {
        for (int column = 0; column < 12; column++) {
            Probe probe = new Probe().csi("1m").type(ROW).csi("4m").type(NEXT_ROW).csi("4h");
            probe.csi("1;" + (column + 1) + "H").csi("0;7m").type("#");
            String what = "INSERT in column " + column;
            Check.due(what, probe.line(0), ROW.substring(0, column) + "#" + ROW.substring(column, 11));
            Check.due(what + ", styles", probe.styles(0), "1".repeat(column) + "4" + "1".repeat(11 - column));
            Check.due(what + ", the next row", probe.line(1), NEXT_ROW);
            Check.due(what + ", the next row's styles", probe.styles(1), "333333333333");
            Check.due(what + ", cursor", probe.cursor(), column == 11 ? "0,11W" : "0," + (column + 1));
        }
    }

    private static void insertAndOver() {
        Probe probe = new Probe().type(ROW).csi("3G").type("X");
        Check.due("INSERT off", probe.line(0), "abXdefghijkl");
        probe.csi("4h").csi("12G").type("Y").type("Z");
        Check.due("INSERT behind WAITS leaves the row", probe.line(0), "abXdefghijkY");
        Check.due("INSERT behind WAITS is done in the next row", probe.line(1), "Z...........");
        probe.csi("?7l").csi("1;12H").type("VW");
        Check.due("INSERT in column 11, WRAP off", probe.line(0), "abXdefghijkW");
        Check.due("cursor", probe.cursor(), "0,11");
    }

    /** '8 the column becomes 1 less, if it is not 0', '9 .. the next multiple of 4 above it, at most 11', '13 .. 0'. */
    private static void backTabReturn() {
        int[] tabs = {4, 4, 4, 4, 8, 8, 8, 8, 11, 11, 11, 11};
        for (int row : new int[] {0, 3, 5}) {
            for (int column = 0; column < 12; column++) {
                String place = (row + 1) + ";" + (column + 1) + "H";
                String from = " in " + row + ", " + column;
                Check.due("8" + from, new Probe().csi(place).bytes(8).cursor(), row + "," + Math.max(column - 1, 0));
                Check.due("9" + from, new Probe().csi(place).bytes(9).cursor(), row + "," + tabs[column]);
                Check.due("13" + from, new Probe().csi(place).bytes(13).cursor(), row + ",0");
            }
        }
    }

    /** These bytes move the cursor alone: no cell, no kept row, no mode changes. */
    private static void movesTouchNothing() {
        Twins.alikeAt("4;6", "\b\u001b[4;6H", "\t\u001b[4;6H", "\r\u001b[4;6H");
        Twins.alikeAt("4;1", "\b", "\r");
        Twins.alikeAt("4;12", "\t");
    }

    public static void main(String[] args) {
        threeAtOnce();
        threeWithZeros();
        everySign();
        otherBytes();
        everyPen();
        signInEachColumn();
        wrapping();
        wrapOff();
        insertInEachColumn();
        insertAndOver();
        backTabReturn();
        movesTouchNothing();
        Check.end();
    }
}
