/** Promise 18, Order and limits: a test for each of its sentences. */
public final class OrderTest {
    /** 'a sign in column 11 leaves the column as it is, whether WRAP is on or off; in other columns the column grows by 1'. */
    private static void signInColumnEleven() {
        for (String wrap : new String[] {"?7h", "?7l"}) {
            for (String insert : new String[] {"4h", "4l"}) {
                Probe probe = new Probe().csi(wrap).csi(insert);
                for (int column = 0; column < 12; column++) {
                    Check.due(wrap + insert + ", before a sign", probe.column(), column);
                    probe.type("x");
                }
                Check.due(wrap + insert + ", behind the sign in column 11", probe.column(), 11);
                Check.due(wrap + insert + ", the row", probe.row(), 0);
            }
        }
    }

    /** 'A number of a sequence that is not written, also a second one that is not there, is 0.' */
    private static void numberNotWritten() {
        Check.due("3H", new Probe().csi("2;9H").csi("3H").cursor(), "2,0");
        Check.due("3;H", new Probe().csi("2;9H").csi("3;H").cursor(), "2,0");
        Check.due(";3H", new Probe().csi("2;9H").csi(";3H").cursor(), "0,2");
        Check.due("3r", new Probe().csi("2;4r").csi("3r").region(), 52);
        Check.due(";3r", new Probe().csi("2;4r").csi(";3r").region(), 20);
        Check.due("1;m", new Probe().csi("1;m").pen(), 0);
        Check.due("J", new Probe().type("ab").csi("2G").csi("J").line(0), "a...........");
    }

    /** 'A byte that does not fit, and so ends a sequence, does nothing itself (also 8, 9, 10, 13), but for 27.' */
    private static void byteThatDoesNotFit() {
        for (String start : new String[] {"\u001b", "\u001b[", "\u001b[?", "\u001b[3", "\u001b[3;", "\u001b[?49"}) {
            for (int b : new int[] {0, 7, 8, 9, 10, 11, 13, 26, 28, 31, 32, 47, 58, 60, 62, 127}) {
                Probe probe = Full.screen("1;6", 5, 5).type(start).bytes(b);
                Check.due("cursor after " + b, probe.cursor(), "5,5");
                Check.due("sequence after " + b, probe.sequence(), 0);
                Check.due("rows kept after " + b, probe.keptRows(), 0);
                Full.rowsDue("ended by " + b, probe, "abcdef");
            }
            Check.due("27 instead", new Probe().type(start).bytes(27).sequence(), 1);
            Check.due("27 instead, and on", new Probe().type(start).csi("3C").cursor(), "0,3");
        }
    }

    /** 'Sequences that are not named, among them those with 63 and another last byte than h and l, leave WAITS as it is.' */
    private static void notNamedAndWaits() {
        String[] notNamed = {"A", "9", "N", "Z", "=", "[E", "[F", "[I", "[N", "[R", "[U", "[Z", "[[", "[`", "[a", "[e", "[f", "[g", "[n", "[s", "[u",
            "[~", "[?A", "[?H", "[?J", "[?K", "[?L", "[?M", "[?P", "[?S", "[?T", "[?X", "[?@", "[?d", "[?m", "[?r", "[?49r", "[?7m"};
        for (String rest : notNamed) {
            Check.due("27 " + rest, new Probe().csi("3;12H").type("x").esc(rest).cursor(), "2,11W");
            Check.due("without WAITS, 27 " + rest, new Probe().csi("3;12H").esc(rest).cursor(), "2,11");
        }
    }

    /** 'Switching OTHER leaves the pen, INSERT, WRAP, and the cursor and pen that are kept by 27 7 as they are'. */
    private static void whatOtherLeaves() {
        for (String change : new String[] {"?49h", "?49h\u001b[?49l", "?49h\u001b[?49l\u001b[?49h"}) {
            int other = change.endsWith("h") ? 4 : 0;
            Probe probe = new Probe().csi("3;5H").csi("1m").esc("7").csi("4;6H").csi("7m").csi("4h").csi("?7l").csi(change);
            Check.due("pen after " + change, probe.pen(), 5);
            Check.due("modes after " + change, probe.modes(), 1 + other);
            probe.csi("4l").csi("?7h").csi("m").csi(other == 4 ? "?49l" : "?49h");
            Check.due("the pen of the other side", probe.pen(), 0);
            Check.due("modes of the other side", probe.modes(), 6 - other);
            probe.esc("8");
            Check.due("the cursor kept", probe.cursor(), "2,4");
            Check.due("the pen kept", probe.pen(), 1);
        }
    }

    /** What 27 7 keeps in OTHER is kept outside of it too. */
    private static void keptInOther() {
        Probe probe = new Probe().csi("?49h").csi("5;6H").csi("4m").esc("7").csi("?49l").csi("m").esc("8");
        Check.due("cursor", probe.cursor(), "4,5");
        Check.due("pen", probe.pen(), 2);
    }

    /** '27 c switches OTHER off, too, and ends the sequence'. */
    private static void backToTheStart() {
        Probe probe = Full.screen("2;4", 2, 4).csi("?49h").type("x").esc("c");
        Check.due("modes after 27 c", probe.modes(), 2);
        Check.due("sequence after 27 c", probe.sequence(), 0);
        Full.rowsDue("27 c in OTHER", probe, "......");
        probe.csi("?49l");
        Full.rowsDue("nothing comes back", probe, "......");
        Check.due("the cursor does not come back", probe.cursor(), "0,0");
        Check.due("the region does not come back", probe.region(), 50);
        probe.type("c");
        Check.due("the byte behind it is outside", probe.line(0), "c...........");
    }

    /** 'L and M do nothing when the cursor is not in the region, and the column stays then (WAITS is switched off all the same)'. */
    private static void outsideOfTheRegion() {
        for (String last : new String[] {"L", "M", "9L", "9M"}) {
            for (int row : new int[] {0, 4, 5}) {
                Probe probe = Full.screen("2;4", row, 11).csi("0;4;7m").type(Full.SIGNS[row].substring(11));
                Check.due("WAITS before " + last, probe.cursor(), row + ",11W");
                Check.due("row " + row + ", " + last, probe.csi(last).cursor(), row + ",11");
                Check.due("row " + row + ", " + last + ", first signs", probe.firstSigns(), "aA0mM!");
            }
        }
    }

    /** 'rows that they lose are not kept off the screen', not even the top row of a region that begins in row 0. */
    private static void lostRows() {
        for (String last : new String[] {"L", "M", "6L", "6M", "99L", "99M"}) {
            Check.due("row 0, " + last, Full.screen("1;6", 0, 3).csi(last).keptRows(), 0);
            Check.due("row 5, " + last, Full.screen("1;6", 5, 3).csi(last).keptRows(), 0);
            Check.due("region 0 .. 2, " + last, Full.screen("1;3", 0, 3).csi(last).keptRows(), 0);
        }
        Full.keptDue("M, then S", Full.screen("1;6", 0, 3).csi("M").csi("S"), "b");
    }

    public static void main(String[] args) {
        signInColumnEleven();
        numberNotWritten();
        byteThatDoesNotFit();
        notNamedAndWaits();
        whatOtherLeaves();
        keptInOther();
        backToTheStart();
        outsideOfTheRegion();
        lostRows();
        Check.end();
    }
}
