/** Promises 6, 7 and 9: the sequences that move the cursor, and those that keep it and the pen. */
public final class CursorTest {
    private static void moves(String region, String[][] runs) {
        for (String[] run : runs) {
            Probe probe = new Probe();
            probe.csi(region + "r").csi(run[0] + "H").csi(run[1]);
            Check.due("region " + region + ", from " + run[0] + ", " + run[1], probe.cursor(), run[2]);
        }
    }

    private static void upAndDown() {
        moves("", new String[][] {
            {"4;3", "A", "2,2"}, {"4;3", "0A", "2,2"}, {"4;3", "2A", "1,2"}, {"4;3", "3A", "0,2"}, {"4;3", "99A", "0,2"},
            {"1;3", "A", "0,2"}, {"2;3", "B", "2,2"}, {"2;3", "0B", "2,2"}, {"2;3", "4B", "5,2"}, {"2;3", "99B", "5,2"},
            {"6;3", "B", "5,2"},
        });
        moves("3;5", new String[][] {
            {"4;3", "A", "2,2"}, {"4;3", "2A", "2,2"}, {"3;3", "A", "2,2"}, {"2;3", "A", "0,2"}, {"2;3", "9A", "0,2"},
            {"1;3", "A", "0,2"}, {"6;3", "A", "4,2"}, {"6;3", "9A", "2,2"}, {"5;3", "9A", "2,2"},
            {"4;3", "B", "4,2"}, {"4;3", "2B", "4,2"}, {"5;3", "B", "4,2"}, {"1;3", "B", "1,2"}, {"1;3", "9B", "4,2"},
            {"3;3", "9B", "4,2"}, {"6;3", "B", "5,2"},
        });
        moves("1;3", new String[][] {
            {"5;3", "B", "5,2"}, {"5;3", "9B", "5,2"}, {"4;3", "B", "4,2"}, {"4;3", "9A", "0,2"}, {"3;3", "B", "2,2"},
        });
    }

    private static void alongTheRow() {
        moves("2;3", new String[][] {
            {"4;3", "C", "3,3"}, {"4;3", "0C", "3,3"}, {"4;3", "9C", "3,11"}, {"4;3", "10C", "3,11"}, {"4;12", "C", "3,11"},
            {"4;3", "D", "3,1"}, {"4;3", "0D", "3,1"}, {"4;3", "2D", "3,0"}, {"4;3", "3D", "3,0"}, {"4;1", "D", "3,0"},
            {"4;12", "11D", "3,0"}, {"4;12", "10D", "3,1"},
        });
    }

    private static void toPlaces() {
        moves("2;3", new String[][] {
            {"4;3", "G", "3,0"}, {"4;3", "1G", "3,0"}, {"4;3", "12G", "3,11"}, {"4;3", "13G", "3,11"}, {"4;3", "7G", "3,6"},
            {"4;3", "d", "0,2"}, {"4;3", "1d", "0,2"}, {"4;3", "6d", "5,2"}, {"4;3", "7d", "5,2"}, {"4;3", "5d", "4,2"},
            {"4;3", "H", "0,0"}, {"4;3", "6;12H", "5,11"}, {"4;3", "7;13H", "5,11"}, {"4;3", "0;5H", "0,4"},
            {"4;3", "5H", "4,0"}, {"4;3", ";5H", "0,4"}, {"4;3", "99;1H", "5,0"},
        });
    }

    private static void unnamedOnes() {
        Probe probe = new Probe();
        probe.type("abc").csi("3;3H");
        for (String last : new String[] {"E", "F", "I", "N", "O", "Q", "R", "U", "V", "W", "Y", "Z", "[", "]", "^", "`",
            "a", "b", "c", "e", "f", "g", "i", "n", "s", "u", "x", "~"}) {
            probe.csi("2" + last);
            Check.due("cursor after " + last, probe.cursor(), "2,2");
        }
        for (String last : new String[] {"A", "B", "C", "D", "G", "d", "H", "J", "K", "X", "P", "@", "L", "M", "S", "T", "r"}) {
            probe.csi("?2" + last);
            Check.due("cursor after ? " + last, probe.cursor(), "2,2");
        }
        Check.due("row 0", probe.line(0), "abc.........");
        Check.due("region", probe.ask().region(), 50);
    }

    private static void keptCursor() {
        Probe probe = new Probe();
        probe.csi("4;6H").csi("1;7m").esc("7");
        Check.due("27 7 leaves the cursor", probe.cursor(), "3,5");
        Check.due("27 7 leaves the pen", probe.ask().pen(), 5);
        probe.csi("H").csi("4m").esc("8");
        Check.due("27 8, cursor", probe.cursor(), "3,5");
        Check.due("27 8, pen", probe.ask().pen(), 5);
        probe.csi("H").csi("m").csi("1;2r").esc("8");
        Check.due("27 8 again, outside of the region", probe.cursor(), "3,5");
        Check.due("27 8 leaves the region", probe.ask().region(), 10);
        Check.due("27 8 again, pen", probe.ask().pen(), 5);
    }

    private static void feeds() {
        moves("2;4", new String[][] {
            {"2;3", "1C\u001bD", "2,3"}, {"4;3", "1C\u001bD", "3,3"}, {"6;3", "1C\u001bD", "5,3"},
            {"2;3", "1C\u001bE", "2,0"}, {"4;3", "1C\u001bE", "3,0"}, {"6;3", "1C\u001bE", "5,0"},
            {"3;3", "1C\u001bM", "1,3"}, {"2;3", "1C\u001bM", "1,3"}, {"1;3", "1C\u001bM", "0,3"}, {"6;3", "1C\u001bM", "4,3"},
        });
    }

    public static void main(String[] args) {
        upAndDown();
        alongTheRow();
        toPlaces();
        unnamedOnes();
        keptCursor();
        feeds();
        Check.end();
    }
}
