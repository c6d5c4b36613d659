/** Promise 11: INSERT, WRAP and OTHER; 27 c; and what promise 18 says of them. */
public final class ModesTest {
    private static void switches() {
        Object[][] runs = {
            {"4h", 3}, {"4l", 2}, {"4h\u001b[4l", 2}, {"?7l", 0}, {"?7h", 2}, {"?7l\u001b[?7h", 2}, {"?49h", 6}, {"?49l", 2},
            {"?49h\u001b[?49l", 2}, {"4h\u001b[?7l\u001b[?49h", 5}, {"7l", 2}, {"49h", 2}, {"?4h", 2}, {"h", 2}, {"?h", 2},
            {"0;4h", 2}, {"?0;7l", 2}, {"?7;49h", 2}, {"4;0h", 3}, {"44h", 2}, {"?48h", 2}, {"?50h", 2}, {"?149h", 2},
            {"4i", 2}, {"?7m", 2}, {"?49k", 2}, {"?1049h", 2}, {"04h", 3}, {"?049h", 6},
        };
        for (Object[] run : runs) {
            Probe probe = new Probe();
            probe.csi((String) run[0]);
            Check.due("modes after " + run[0], probe.ask().modes(), run[1]);
        }
    }

    private static void otherScreen() {
        Probe probe = new Probe();
        probe.csi("1m").fillRows().csi("2;4r").csi("3;5H").csi("?49h");
        Check.due("OTHER is empty", probe.firstSigns(), "......");
        Check.due("OTHER has no styles", probe.styles(0), "000000000000");
        Check.due("cursor in OTHER", probe.cursor(), "0,0");
        Check.due("region in OTHER", probe.ask().region(), 50);
        Check.due("the pen stays", probe.ask().pen(), 1);
        probe.type("x").csi("3;6r").csi("5;8H").csi("?49h");
        Check.due("switched on while on, cursor", probe.cursor(), "4,7");
        Check.due("switched on while on, region", probe.ask().region(), 52);
        Check.due("switched on while on, cells", probe.firstSigns(), "x.....");
        probe.csi("4m").csi("4h").csi("?7l").csi("?49l");
        Check.due("cells come back", probe.firstSigns(), "abcdef");
        Check.due("styles come back", probe.styles(0), "100000000000");
        Check.due("the cursor comes back", probe.cursor(), "2,4");
        Check.due("the region comes back", probe.ask().region(), 31);
        Check.due("the pen does not come back", probe.ask().pen(), 3);
        Check.due("INSERT and WRAP do not come back", probe.ask().modes(), 1);
        probe.csi("6;6H").csi("?49l");
        Check.due("switched off while off", probe.cursor(), "5,5");
        Check.due("switched off while off, cells", probe.firstSigns(), "abcdef");
        probe.csi("?49h");
        Check.due("OTHER is empty again", probe.firstSigns(), "......");
    }

    private static void otherKeepsNoRows() {
        Probe probe = new Probe();
        probe.type("a").csi("S").csi("?49h").type("b").csi("S").csi("6;1H").bytes(10);
        Check.due("no row of OTHER is kept", probe.firstKept(), "a");
        probe.csi("?49l").csi("H").type("c").csi("S");
        Check.due("rows are kept again", probe.firstKept(), "ca");
    }

    private static void keptCursorAndOther() {
        Probe probe = new Probe();
        probe.csi("1m").csi("3;5H").esc("7").csi("?49h").csi("m").esc("8");
        Check.due("27 8 in OTHER, cursor", probe.cursor(), "2,4");
        Check.due("27 8 in OTHER, pen", probe.ask().pen(), 1);
        probe.csi("5;6H").csi("4m").esc("7").csi("?49l").csi("m").csi("H").esc("8");
        Check.due("what was kept in OTHER stays, cursor", probe.cursor(), "4,5");
        Check.due("what was kept in OTHER stays, pen", probe.ask().pen(), 3);
    }

    private static void allAsAtFirst() {
        Probe probe = new Probe();
        probe.csi("1m").fillRows().csi("S").ask().refresh();
        probe.csi("3;5H").esc("7").csi("2;4r").csi("4h").csi("?7l").csi("?49h").csi("6;12H").csi("?7h").type("x");
        Check.due("before 27 c", probe.cursor(), "5,11W");
        probe.esc("c");
        Check.due("27 c, cursor and WAITS", probe.cursor(), "0,0");
        Check.due("27 c, pen", probe.ask().pen(), 0);
        Check.due("27 c, region", probe.ask().region(), 50);
        Check.due("27 c, modes", probe.ask().modes(), 2);
        Check.due("27 c, sequence", probe.ask().sequence(), 0);
        Check.due("27 c, rows kept", probe.ask().keptRows(), 0);
        Check.due("27 c, kept(0, 0)", probe.ask().kept(0, 0), TerminalStack.BAD);
        Check.due("27 c, cells", probe.firstSigns(), "......");
        Check.due("27 c, the last row", probe.line(5), "............");
        Check.due("27 c, styles", probe.styles(5), "000000000000");
        Check.due("27 c, what is shown stays", probe.ask().shown(0, 0), 'b' + 128);
        Check.due("27 c, stale", probe.ask().stale(), 5);
        probe.csi("?49l");
        Check.due("nothing comes back after 27 c", probe.firstSigns(), "......");
        probe.csi("3;3H").csi("7m").esc("8");
        Check.due("27 c, cursor kept", probe.cursor(), "0,0");
        Check.due("27 c, pen kept", probe.ask().pen(), 0);
        probe.type("q").csi("S");
        Check.due("rows are kept anew", probe.firstKept(), "q");
    }

    private static void regionAsAtFirst() {
        Probe probe = new Probe();
        probe.csi("2;4r").csi("3;3H").esc("c");
        Check.due("27 c, region of the screen", probe.ask().region(), 50);
        Check.due("27 c, cursor of the screen", probe.cursor(), "0,0");
    }

    public static void main(String[] args) {
        switches();
        otherScreen();
        otherKeepsNoRows();
        keptCursorAndOther();
        allAsAtFirst();
        regionAsAtFirst();
        Check.end();
    }
}
