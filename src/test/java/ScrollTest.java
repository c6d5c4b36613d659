/** Promises 10, 13 and 14: the region, the rows that S, T, L and M move in it, and those kept off the screen. */
public final class ScrollTest {
    /** A region, a number with its last byte, and the rows that are due on the screen and off it. */
    private record Due(String region, String sequence, String rows, String kept) {
    }

    /** 'r with q = 0 counting as 6 and p = 0 as 1: if p < q <= 6 .. else nothing'. */
    private static void regions() {
        String[] numbers = {"", "0", "1", "2", "3", "4", "5", "6", "7", "8", "10", "16", "60", "99", "100", "102"};
        for (String p : numbers) {
            for (String q : numbers) {
                int first = p.isEmpty() || p.equals("0") ? 1 : Integer.parseInt(p);
                int last = q.isEmpty() || q.equals("0") ? 6 : Integer.parseInt(q);
                boolean taken = first < last && last <= 6;
                Probe probe = Full.screen("2;4", 3, 4).csi(p + ";" + q + "r");
                String what = p + ";" + q + "r";
                Check.due("region after " + what, probe.region(), taken ? first - 1 + 10 * (last - 1) : 31);
                Check.due("cursor after " + what, probe.cursor(), taken ? "0,0" : "3,4");
                Full.rowsDue(what, probe, "abcdef");
            }
        }
    }

    /** The regions just inside and just outside of the rule, in numbers. */
    private static void regionsOneByOne() {
        Object[][] runs = {
            {"r", 50}, {"0r", 50}, {"1r", 50}, {"2r", 51}, {"5r", 54}, {"6r", 31}, {"7r", 31}, {"1;2r", 10}, {"1;1r", 31}, {";1r", 31},
            {";2r", 10}, {"5;6r", 54}, {"6;6r", 31}, {"5;5r", 31}, {"5;4r", 31}, {"1;6r", 50}, {"1;7r", 31}, {"3;99r", 31}, {"4;5;6r", 43},
        };
        for (Object[] run : runs) {
            Check.due("region after " + run[0], new Probe().csi("2;4r").csi((String) run[0]).region(), run[1]);
        }
    }

    /** 'else nothing', but for WAITS (WaitsTest). */
    private static void refusedRegions() {
        for (String refused : new String[] {"1;1", "3;3", "4;3", "6;1", "1;7", "6;7", "6", "99", "99;99", ";1"}) {
            Twins.alikeAt("4;6", "\u001b[" + refused + "r");
        }
    }

    private static final Due[] SCROLLS = {
        new Due("1;6", "S", "bcdef.", "a"), new Due("1;6", "0S", "bcdef.", "a"), new Due("1;6", "1S", "bcdef.", "a"),
        new Due("1;6", "2S", "cdef..", "ba"), new Due("1;6", "5S", "f.....", "edcba"), new Due("1;6", "6S", "......", "fedcba"),
        new Due("1;6", "7S", "......", ".fedcba"), new Due("1;6", "8S", "......", "..fedcba"), new Due("1;6", "9S", "......", "...fedcb"),
        new Due("1;6", "13S", "......", ".......f"), new Due("1;6", "14S", "......", "........"), new Due("1;6", "99S", "......", "........"),
        new Due("1;6", "100S", "......", "........"),
        new Due("1;3", "S", "bc.def", "a"), new Due("1;3", "2S", "c..def", "ba"), new Due("1;3", "3S", "...def", "cba"),
        new Due("1;3", "4S", "...def", ".cba"), new Due("1;3", "8S", "...def", ".....cba"), new Due("1;3", "9S", "...def", "......cb"),
        new Due("1;3", "10S", "...def", ".......c"), new Due("1;3", "11S", "...def", "........"),
        new Due("1;2", "S", "b.cdef", "a"), new Due("1;2", "2S", "..cdef", "ba"), new Due("1;2", "3S", "..cdef", ".ba"),
        new Due("2;4", "S", "acd.ef", ""), new Due("2;4", "2S", "ad..ef", ""), new Due("2;4", "3S", "a...ef", ""),
        new Due("2;4", "4S", "a...ef", ""), new Due("2;4", "99S", "a...ef", ""),
        new Due("2;6", "S", "acdef.", ""), new Due("4;6", "S", "abcef.", ""), new Due("4;6", "2S", "abcf..", ""),
        new Due("4;6", "3S", "abc...", ""), new Due("4;6", "4S", "abc...", ""), new Due("5;6", "S", "abcdf.", ""),
        new Due("1;6", "T", ".abcde", ""), new Due("1;6", "0T", ".abcde", ""), new Due("1;6", "2T", "..abcd", ""),
        new Due("1;6", "5T", ".....a", ""), new Due("1;6", "6T", "......", ""), new Due("1;6", "7T", "......", ""),
        new Due("1;6", "99T", "......", ""), new Due("1;6", "100T", "......", ""),
        new Due("1;3", "T", ".abdef", ""), new Due("1;3", "2T", "..adef", ""), new Due("1;3", "3T", "...def", ""),
        new Due("1;3", "4T", "...def", ""), new Due("2;4", "T", "a.bcef", ""), new Due("2;4", "2T", "a..bef", ""),
        new Due("2;4", "3T", "a...ef", ""), new Due("2;4", "4T", "a...ef", ""), new Due("4;6", "T", "abc.de", ""),
        new Due("4;6", "3T", "abc...", ""), new Due("4;6", "4T", "abc...", ""), new Due("5;6", "T", "abcd.e", ""),
    };

    /**
     * 'S the region SCROLLS UP by n rows. T it SCROLLS DOWN by n rows', wherever the cursor is. 'By n rows: n times':
     * an empty row that came in and goes off again is a lost row too.
     */
    private static void scrolls() {
        for (Due due : SCROLLS) {
            for (int row = 0; row < 6; row++) {
                look(due, row, row + ",4");
            }
        }
    }

    private static void look(Due due, int row, String cursor) {
        Probe probe = Full.screen(due.region, row, 4);
        int region = probe.region();
        probe.csi(due.sequence);
        String what = "region " + due.region + ", row " + row + ", " + due.sequence;
        Full.rowsDue(what, probe, due.rows);
        Full.keptDue(what, probe, due.kept);
        Check.due(what + ", cursor", probe.cursor(), cursor);
        Check.due(what + ", region", probe.region(), region);
    }

    /** A row of the table: region, the cursor's row, last byte, the rows for n = 1, 2 .. and for all greater n the last of them. */
    private static final String[][] PUT_IN_AND_TAKEN_OUT = {
        {"1;6", "0", "L", ".abcde", "..abcd", "...abc", "....ab", ".....a", "......"},
        {"1;6", "3", "L", "abc.de", "abc..d", "abc..."}, {"1;6", "4", "L", "abcd.e", "abcd.."}, {"1;6", "5", "L", "abcde."},
        {"2;4", "1", "L", "a.bcef", "a..bef", "a...ef"}, {"2;4", "2", "L", "ab.cef", "ab..ef"}, {"2;4", "3", "L", "abc.ef"},
        {"1;3", "0", "L", ".abdef", "..adef", "...def"}, {"4;6", "3", "L", "abc.de", "abc..d", "abc..."}, {"4;6", "5", "L", "abcde."},
        {"1;6", "0", "M", "bcdef.", "cdef..", "def...", "ef....", "f.....", "......"},
        {"1;6", "3", "M", "abcef.", "abcf..", "abc..."}, {"1;6", "4", "M", "abcdf.", "abcd.."}, {"1;6", "5", "M", "abcde."},
        {"2;4", "1", "M", "acd.ef", "ad..ef", "a...ef"}, {"2;4", "2", "M", "abd.ef", "ab..ef"}, {"2;4", "3", "M", "abc.ef"},
        {"1;3", "0", "M", "bc.def", "c..def", "...def"}, {"4;6", "3", "M", "abcef.", "abcf..", "abc..."}, {"4;6", "5", "M", "abcde."},
    };

    /** 'n empty rows are put in at its row ..; those beyond it are lost', 'n rows from its row on are taken out'; none is kept. */
    private static void putInAndTakenOut() {
        for (String[] line : PUT_IN_AND_TAKEN_OUT) {
            int row = Integer.parseInt(line[1]);
            int most = line.length - 3;
            String cursor = row + ",0";
            for (int n = 1; n <= most; n++) {
                look(new Due(line[0], n + line[2], line[2 + n], ""), row, cursor);
            }
            look(new Due(line[0], line[2], line[3], ""), row, cursor);
            look(new Due(line[0], "0" + line[2], line[3], ""), row, cursor);
            look(new Due(line[0], (most + 1) + line[2], line[2 + most], ""), row, cursor);
            look(new Due(line[0], "99" + line[2], line[2 + most], ""), row, cursor);
            look(new Due(line[0], "100" + line[2], line[2 + most], ""), row, cursor);
        }
    }

    /** 'when the cursor is in the region': just above it and just below it nothing is done, and the column stays. */
    private static void notInTheRegion() {
        String[][] outside = {{"2;4", "0"}, {"2;4", "4"}, {"2;4", "5"}, {"1;5", "5"}, {"2;6", "0"}, {"1;2", "2"}, {"5;6", "3"}, {"5;6", "0"}};
        for (String[] place : outside) {
            int row = Integer.parseInt(place[1]);
            for (String sequence : new String[] {"L", "0L", "1L", "2L", "99L", "M", "0M", "1M", "2M", "99M"}) {
                look(new Due(place[0], sequence, "abcdef", ""), row, row + ",4");
            }
        }
    }

    /** So what no answer tells at once is as it was, too. */
    private static void nothingIsDoneOutside() {
        for (String place : new String[] {"1;1", "1;5", "1;12", "6;1", "6;5", "6;12"}) {
            Twins.alikeAt(place, "\u001b[L", "\u001b[9L", "\u001b[M", "\u001b[9M");
        }
    }

    /** 'the column becomes 0' from every column. */
    private static void columnBecomesZero() {
        for (int column = 0; column < 12; column++) {
            Check.due("L in column " + column, Full.screen("2;4", 2, column).csi("L").cursor(), "2,0");
            Check.due("M in column " + column, Full.screen("2;4", 2, column).csi("M").cursor(), "2,0");
        }
    }

    /** 'while OTHER is off and the top of the region is row 0', for each of the fifteen regions and each way to scroll. */
    private static void whichRowsAreKept() {
        for (int top = 0; top < 5; top++) {
            for (int bottom = top + 1; bottom < 6; bottom++) {
                String region = (top + 1) + ";" + (bottom + 1);
                String kept = top == 0 ? "a" : "";
                for (String way : new String[] {"\u001b[S", "\n", "\u001bD", "\u001bE"}) {
                    Full.keptDue("region " + region, Full.screen(region, bottom, 4).type(way), kept);
                    String other = "\u001b[?49h\u001b[" + region + "r\u001b[" + (bottom + 1) + "d";
                    Full.keptDue("OTHER, region " + region, Full.screen(region, bottom, 4).type(other + way), "");
                    String backAgain = "\u001b[?49h\u001b[?49l";
                    Full.keptDue("OTHER off again, region " + region, Full.screen(region, bottom, 4).type(backAgain + way), kept);
                }
                for (String way : new String[] {"\u001b[T", "\u001bM", "\u001b[L", "\u001b[M", "\u001b[2J", "\u001b[2K"}) {
                    Full.keptDue("region " + region + ", no scroll up", Full.screen(region, top, 4).type(way), "");
                }
            }
        }
    }

    /** 'the last eight such rows are': seven, eight, nine and more, one by one. */
    private static void lastEight() {
        Probe probe = new Probe();
        String[] due = {"a", "ba", "cba", "dcba", "edcba", "fedcba", "gfedcba", "hgfedcba", "ihgfedcb", "jihgfedc"};
        for (int i = 0; i < due.length; i++) {
            probe.type("" + (char) ('a' + i)).csi("S").bytes(13);
            Check.due("keptRows after " + (i + 1), probe.keptRows(), Math.min(i + 1, 8));
            Check.due("rows kept after " + (i + 1), probe.firstKept(), due[i]);
        }
        for (char c = 'k'; c <= 'z'; c++) {
            probe.type("" + c).csi("S").bytes(13);
        }
        Check.due("the last eight of 26", probe.firstKept(), "zyxwvuts");
    }

    /** What is kept stays whatever happens on the screen, but for 27 c. */
    private static void keptRowsStay() {
        Probe probe = new Probe().csi("1m").type("abcdefghijkl").csi("S");
        for (String other : new String[] {"2J", "3T", "99L", "99M", "2;4r", "9S", "?49h", "9S", "?49l", "r"}) {
            probe.csi(other);
            Check.due("keptRows after " + other, probe.keptRows(), 1);
        }
        Check.due("all its signs, without styles", probe.keptLine(0), "abcdefghijkl");
        probe.csi("S");
        Check.due("an empty row is kept like any other", probe.keptLine(0), "............");
        Check.due("the row before it", probe.keptLine(1), "abcdefghijkl");
        probe.esc("c");
        Check.due("keptRows after 27 c", probe.keptRows(), 0);
        Check.due("kept(0, 0) after 27 c", probe.kept(0, 0), TerminalStack.BAD);
    }

    public static void main(String[] args) {
        regions();
        regionsOneByOne();
        refusedRegions();
        scrolls();
        putInAndTakenOut();
        notInTheRegion();
        nothingIsDoneOutside();
        columnBecomesZero();
        whichRowsAreKept();
        lastEight();
        keptRowsStay();
        Check.end();
    }
}
