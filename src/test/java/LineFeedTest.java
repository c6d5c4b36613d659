/**
 * LINE FEED ('if the row is the bottom of the region ..; else the row becomes 1 more, if it is not
 * 5'), by 10, 27 D, 27 E and a sign behind WAITS, and its reverse, 27 M, in every row of six regions.
 */
public final class LineFeedTest {
    /** A region, the row that comes after each row, and the screen after the scroll, with what is then kept. */
    private record Due(String region, String rows, String scrolled, String kept) {
    }

    private static final Due[] FEEDS = {
        new Due("1;6", "123455", "bcdef.", "a"),
        new Due("1;2", "113455", "b.cdef", "a"),
        new Due("1;3", "122455", "bc.def", "a"),
        new Due("2;4", "123355", "acd.ef", ""),
        new Due("4;6", "123455", "abcef.", ""),
        new Due("5;6", "123455", "abcdf.", ""),
    };

    private static final Due[] REVERSES = {
        new Due("1;6", "001234", ".abcde", ""),
        new Due("1;2", "001234", ".acdef", ""),
        new Due("1;3", "001234", ".abdef", ""),
        new Due("2;4", "011234", "a.bcef", ""),
        new Due("4;6", "001334", "abc.de", ""),
        new Due("5;6", "001244", "abcd.e", ""),
    };

    private static Probe at(Due due, int row, int column) {
        return new Probe().fillRows().csi(due.region + "r").csi((row + 1) + ";" + (column + 1) + "H");
    }

    private static void look(String what, Probe probe, String cursor, String signs, String kept) {
        Check.due(what + ", cursor", probe.cursor(), cursor);
        Check.due(what + ", rows", probe.firstSigns(), signs);
        Check.due(what + ", kept", probe.firstKept(), kept);
    }

    private static void moves(Due due, int edge, String bytes, int column, int columnAfter) {
        for (int row = 0; row < 6; row++) {
            String what = "region " + due.region + ", row " + row + ", " + bytes.replace("\u001b", "27 ");
            String cursor = due.rows.charAt(row) + "," + columnAfter;
            boolean scrolls = row == edge;
            look(what, at(due, row, column).type(bytes), cursor, scrolls ? due.scrolled : "abcdef", scrolls ? due.kept : "");
        }
    }

    private static void lineFeeds() {
        for (Due due : FEEDS) {
            int bottom = due.region.charAt(2) - '1';
            for (int column : new int[] {0, 4, 11}) {
                moves(due, bottom, "\n", column, column);
                moves(due, bottom, "\u001bD", column, column);
                moves(due, bottom, "\u001bE", column, 0);
            }
        }
    }

    private static void reverses() {
        for (Due due : REVERSES) {
            int top = due.region.charAt(0) - '1';
            for (int column : new int[] {0, 4, 11}) {
                moves(due, top, "\u001bM", column, column);
            }
        }
    }

    /** The second # goes to column 0 of the row that the LINE FEED leads to. */
    private static void wraps() {
        for (Due due : FEEDS) {
            int bottom = due.region.charAt(2) - '1';
            for (int row = 0; row < 6; row++) {
                boolean scrolls = row == bottom;
                StringBuilder signs = new StringBuilder(scrolls ? due.scrolled : "abcdef");
                int after = due.rows.charAt(row) - '0';
                signs.setCharAt(after, '#');
                String what = "region " + due.region + ", row " + row + ", a sign behind WAITS";
                look(what, at(due, row, 11).type("##"), after + ",1", signs.toString(), scrolls ? due.kept : "");
            }
        }
    }

    private static void severalTimes() {
        Probe probe = at(FEEDS[3], 5, 4).type("\n\n\n\u001bD\u001bE\n");
        look("six times in row 5", probe, "5,0", "abcdef", "");
        Probe top = at(REVERSES[3], 0, 4).type("\u001bM\u001bM\u001bM");
        look("27 M three times in row 0", top, "0,4", "abcdef", "");
        Probe twice = at(FEEDS[0], 5, 4).type("\n\n");
        look("10 twice at the bottom", twice, "5,4", "cdef..", "ba");
        Probe down = at(REVERSES[0], 0, 4).type("\u001bM\u001bM");
        look("27 M twice at the top", down, "0,4", "..abcd", "");
    }

    /** 'if it is not 5' and 'if it is not 0': there they do nothing at all, but for the column of 27 E. */
    private static void nowhereToGo() {
        Twins.alikeAt("6;6", "\n", "\u001bD", "\n\u001bD\n");
        Twins.alikeAt("6;1", "\n", "\u001bD", "\u001bE");
        Twins.alikeAt("1;6", "\u001bM", "\u001bM\u001bM");
    }

    public static void main(String[] args) {
        lineFeeds();
        reverses();
        wraps();
        severalTimes();
        nowhereToGo();
        Check.end();
    }
}
