/** Promises 10, 13 and 14: the region, the rows that move in it, and those kept off the screen. */
public final class ScrollTest {
    private static void regions() {
        Object[][] runs = {
            {"2;4r", 31}, {"r", 50}, {"0;0r", 50}, {"3r", 52}, {";4r", 30}, {"1;2r", 10}, {"5;6r", 54}, {"1;6r", 50},
            {"2;4r\u001b[4;4r", 31}, {"2;4r\u001b[5;4r", 31}, {"2;4r\u001b[1;7r", 31}, {"2;4r\u001b[6r", 31},
            {"2;4r\u001b[7;8r", 31}, {"2;4r\u001b[99;99r", 31}, {"2;4r\u001b[;1r", 31}, {"2;4r\u001b[r", 50},
        };
        for (Object[] run : runs) {
            Probe probe = new Probe();
            probe.csi((String) run[0]);
            Check.due("region after " + run[0], probe.ask().region(), run[1]);
        }
        Probe probe = new Probe();
        probe.csi("4;5H").csi("4;4r");
        Check.due("a region of one row is refused, the cursor stays", probe.cursor(), "3,4");
        probe.csi("3;5r");
        Check.due("the cursor goes to 0, 0, not to the region's top", probe.cursor(), "0,0");
    }

    private static void rows(String where, String sequence, String signs, String kept, String cursor) {
        Probe probe = new Probe();
        probe.fillRows().csi(where).csi(sequence);
        String what = where + " then " + sequence;
        Check.due("rows, " + what, probe.firstSigns(), signs);
        Check.due("kept, " + what, probe.firstKept(), kept);
        Check.due("cursor, " + what, probe.cursor(), cursor);
    }

    private static void wholeScreen() {
        rows("3;4H", "S", "bcdef.", "a", "2,3");
        rows("3;4H", "0S", "bcdef.", "a", "2,3");
        rows("3;4H", "3S", "def...", "cba", "2,3");
        rows("3;4H", "7S", "......", ".fedcba", "2,3");
        rows("3;4H", "9S", "......", "...fedcb", "2,3");
        rows("3;4H", "99S", "......", "........", "2,3");
        rows("3;4H", "T", ".abcde", "", "2,3");
        rows("3;4H", "0T", ".abcde", "", "2,3");
        rows("3;4H", "5T", ".....a", "", "2,3");
        rows("3;4H", "99T", "......", "", "2,3");
        rows("3;4H", "L", "ab.cde", "", "2,0");
        rows("3;4H", "0L", "ab.cde", "", "2,0");
        rows("3;4H", "3L", "ab...c", "", "2,0");
        rows("3;4H", "99L", "ab....", "", "2,0");
        rows("3;4H", "M", "abdef.", "", "2,0");
        rows("3;4H", "0M", "abdef.", "", "2,0");
        rows("3;4H", "3M", "abf...", "", "2,0");
        rows("3;4H", "99M", "ab....", "", "2,0");
        rows("1;4H", "2M", "cdef..", "", "0,0");
    }

    private static void lowRegion() {
        String at = "2;4r\u001b[3;4H";
        rows(at, "S", "acd.ef", "", "2,3");
        rows(at, "9S", "a...ef", "", "2,3");
        rows(at, "T", "a.bcef", "", "2,3");
        rows(at, "9T", "a...ef", "", "2,3");
        rows(at, "L", "ab.cef", "", "2,0");
        rows(at, "9L", "ab..ef", "", "2,0");
        rows(at, "M", "abd.ef", "", "2,0");
        rows(at, "9M", "ab..ef", "", "2,0");
        rows("2;4r\u001b[2;4H", "M", "acd.ef", "", "1,0");
        rows("2;4r\u001b[2;4H", "L", "a.bcef", "", "1,0");
        rows("2;4r\u001b[4;4H", "L", "abc.ef", "", "3,0");
        rows("2;4r\u001b[4;4H", "M", "abc.ef", "", "3,0");
        for (String sequence : new String[] {"L", "M", "9L", "9M"}) {
            rows("2;4r\u001b[1;4H", sequence, "abcdef", "", "0,3");
            rows("2;4r\u001b[5;4H", sequence, "abcdef", "", "4,3");
            rows("2;4r\u001b[6;4H", sequence, "abcdef", "", "5,3");
        }
        rows("2;4r\u001b[6;4H", "S", "acd.ef", "", "5,3");
        rows("2;4r\u001b[1;4H", "T", "a.bcef", "", "0,3");
    }

    private static void highRegion() {
        rows("1;3r\u001b[5;4H", "S", "bc.def", "a", "4,3");
        rows("1;3r\u001b[5;4H", "4S", "...def", ".cba", "4,3");
        rows("1;3r\u001b[1;4H", "M", "bc.def", "", "0,0");
    }

    private static void lineFeeds() {
        rows("1;3r\u001b[3;4H", "C\n", "bc.def", "a", "2,4");
        rows("1;3r\u001b[3;4H", "C\u001bD", "bc.def", "a", "2,4");
        rows("1;3r\u001b[3;4H", "C\u001bE", "bc.def", "a", "2,0");
        rows("1;3r\u001b[1;4H", "C\u001bM", ".abdef", "", "0,4");
        rows("2;3r\u001b[3;4H", "C\n", "ac.def", "", "2,4");
        rows("2;3r\u001b[2;4H", "C\u001bM", "a.bdef", "", "1,4");
        rows("6;4H", "C\n\n", "cdef..", "ba", "5,4");
        rows("1;3r\u001b[6;4H", "C\n", "abcdef", "", "5,4");
        rows("1;3r\u001b[4;4H", "C\n", "abcdef", "", "4,4");
    }

    private static void wholeRowsMove() {
        Probe probe = new Probe();
        probe.csi("1m").type("abcdefghijkl").csi("4m").type("ABCDEFGHIJKL").csi("S");
        Check.due("signs", probe.line(0), "ABCDEFGHIJKL");
        Check.due("styles", probe.styles(0), "333333333333");
        Check.due("an empty row has style 0", probe.styles(5), "000000000000");
        probe.csi("99T");
        Check.due("an empty row has style 0, also at the top", probe.styles(0), "000000000000");
        String kept = "";
        for (int column = 0; column < 12; column++) {
            kept += (char) probe.ask().kept(0, column);
        }
        Check.due("the signs alone are kept", kept, "abcdefghijkl");
    }

    /** Four full rows and a region of the rows 1 .. 2: the cells at its edges must not be touched. */
    private static void edgesOfTheRegion() {
        String a = "abcdefghijkl";
        String b = "ABCDEFGHIJKL";
        String c = "012345678901";
        String d = "mnopqrstuvwx";
        String none = "............";
        Object[][] runs = {
            {"S", new String[] {a, c, none, d}}, {"T", new String[] {a, none, b, d}},
            {"L", new String[] {a, none, b, d}}, {"M", new String[] {a, c, none, d}},
        };
        for (Object[] run : runs) {
            Probe probe = new Probe();
            probe.type(a + b + c + d).csi("2;3r").csi("2;5H").csi((String) run[0]);
            String[] due = (String[]) run[1];
            for (int row = 0; row < due.length; row++) {
                Check.due("full rows, " + run[0] + ", row " + row, probe.line(row), due[row]);
            }
        }
    }

    private static void lastEight() {
        Probe probe = new Probe();
        for (char c = 'a'; c <= 'o'; c++) {
            probe.type("" + c).csi("S").bytes(13);
            Check.due("keptRows", probe.ask().keptRows(), Math.min(c - 'a' + 1, 8));
            Check.due("kept(0, 0)", probe.ask().kept(0, 0), (int) c);
        }
        Check.due("the last eight", probe.firstKept(), "onmlkjih");
        for (int i : new int[] {-1, 8, 9, 100, Integer.MIN_VALUE, Integer.MAX_VALUE}) {
            Check.due("kept(" + i + ", 0)", probe.ask().kept(i, 0), TerminalStack.BAD);
        }
        for (int column : new int[] {-1, 12, 13, 100, Integer.MIN_VALUE, Integer.MAX_VALUE}) {
            Check.due("kept(0, " + column + ")", probe.ask().kept(0, column), TerminalStack.BAD);
            Check.due("kept(7, " + column + ")", probe.ask().kept(7, column), TerminalStack.BAD);
        }
        Check.due("kept(7, 11)", probe.ask().kept(7, 11), 32);
        Probe one = new Probe();
        one.type("x").csi("S");
        Check.due("kept(0, 0)", one.ask().kept(0, 0), (int) 'x');
        Check.due("kept(1, 0) of one row", one.ask().kept(1, 0), TerminalStack.BAD);
        one.csi("2J").csi("3T");
        Check.due("a kept row stays", one.firstKept(), "x");
    }

    public static void main(String[] args) {
        regions();
        wholeScreen();
        lowRegion();
        highRegion();
        lineFeeds();
        wholeRowsMove();
        edgesOfTheRegion();
        lastEight();
        Check.end();
    }
}
