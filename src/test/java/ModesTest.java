/** Promise 11: h and l with and without ?, what OTHER puts aside and brings back, and 27 c. */
public final class ModesTest {
    private static final String[] STARTS = {"", "\u001b[4h", "\u001b[?7l", "\u001b[4h\u001b[?7l"};
    private static final int[] MODES = {2, 3, 0, 1};

    private static int with(int modes, int bit, boolean on) {
        return on ? modes | bit : modes & ~bit;
    }

    /** 'INSERT is switched on, l off, when p is 4'; 'With ?: WRAP, when p is 7, and OTHER, when p is 49': p from 0 to 150. */
    private static void everyNumber() {
        for (int p = 0; p <= 150; p++) {
            for (int start = 0; start < 8; start++) {
                for (boolean on : new boolean[] {true, false}) {
                    String bytes = STARTS[start % 4] + (start < 4 ? "" : "\u001b[?49h");
                    int modes = MODES[start % 4] + (start < 4 ? 0 : 4);
                    String last = on ? "h" : "l";
                    int bit = p == 7 ? 2 : p == 49 ? 4 : 0;
                    Check.due("modes " + modes + ", " + p + last, new Probe().type(bytes).csi(p + last).modes(), with(modes, p == 4 ? 1 : 0, on));
                    Check.due("modes " + modes + ", ? " + p + last, new Probe().type(bytes).csi("?" + p + last).modes(), with(modes, bit, on));
                }
            }
        }
    }

    /** Only the first number counts, and it may begin with 0. */
    private static void firstNumber() {
        Object[][] runs = {
            {"h", 2}, {"?h", 2}, {"?l", 2}, {"4;0h", 3}, {"0;4h", 2}, {";4h", 2}, {"4;h", 3}, {"?0;7l", 2}, {"?7;49l", 0}, {"?49;7h", 6},
            {"?7;49h", 2}, {"?1;49h", 2}, {"04h", 3}, {"?007l", 0}, {"?049h", 6}, {"?7;0;0;0;0l", 0},
        };
        for (Object[] run : runs) {
            Check.due("modes after " + run[0], new Probe().csi((String) run[0]).modes(), run[1]);
        }
    }

    /** h and l with another number, or to what the mode was, do nothing. */
    private static void nothingIsDone() {
        for (String p : new String[] {"", "0", "3", "5", "7", "49", "44", "104", "0;4"}) {
            String h = p + "h";
            Twins.alike(h, "", probe -> probe.csi(h));
            Twins.alike(h, Twins.BUSY_OTHER, probe -> probe.csi(h));
            Twins.alike(p + "l", Twins.BUSY, probe -> probe.csi(p + "l"));
        }
        for (String p : new String[] {"?", "?4", "?6", "?8", "?48", "?50", "?47", "?107", "?149", "?0;49", "?0;7"}) {
            Twins.alike(p + "h", Twins.BUSY, probe -> probe.csi(p + "h"));
            Twins.alike(p + "l", Twins.BUSY, probe -> probe.csi(p + "l"));
            Twins.alike(p + "l", Twins.BUSY_OTHER, probe -> probe.csi(p + "l"));
        }
        Twins.alike("INSERT off while off", "", probe -> probe.csi("4l"));
        Twins.alike("INSERT on while on", Twins.BUSY, probe -> probe.csi("4h"));
        Twins.alike("WRAP on while on", Twins.BUSY, probe -> probe.csi("?7h"));
        Twins.alike("OTHER off while off", Twins.BUSY, probe -> probe.csi("?49l"));
        Twins.alike("OTHER on while on", Twins.BUSY_OTHER, probe -> probe.csi("?49h"));
    }

    /** 'When OTHER is switched on while off, cursor, region and all cells are put aside, and all cells are empty ..' */
    private static void otherOn() {
        for (String region : new String[] {"1;6", "2;4", "5;6"}) {
            for (int row : new int[] {0, 2, 5}) {
                for (int column : new int[] {0, 4, 11}) {
                    Probe probe = Full.screen(region, row, column).csi("?49h");
                    String what = "OTHER on, region " + region + ", from " + row + ", " + column;
                    Full.rowsDue(what, probe, "......");
                    Check.due(what + ", cursor", probe.cursor(), "0,0");
                    Check.due(what + ", region", probe.region(), 50);
                    Check.due(what + ", pen", probe.pen(), 6);
                }
            }
        }
    }

    /** 'when it is switched off while on, those put aside come back'. */
    private static void otherOff() {
        for (String region : new String[] {"1;6", "2;4", "5;6"}) {
            for (int row : new int[] {0, 2, 5}) {
                for (int column : new int[] {0, 4, 11}) {
                    Probe probe = Full.screen(region, row, column);
                    int before = probe.region();
                    probe.csi("?49h").csi("m").type("xyz").csi("3;5r").csi("4;4H").type("w").csi("?49l");
                    String what = "OTHER off, region " + region + ", from " + row + ", " + column;
                    Full.rowsDue(what, probe, "abcdef");
                    Check.due(what + ", cursor", probe.cursor(), row + "," + column);
                    Check.due(what + ", region", probe.region(), before);
                    Check.due(what + ", pen", probe.pen(), 0);
                }
            }
        }
    }

    private static void otherAgain() {
        Probe probe = Full.screen("2;4", 2, 4).csi("?49h").type("xyz").csi("?49h").type("w");
        Check.due("on while on: the cells stay", probe.line(0), "xyzw........");
        Check.due("on while on: the cursor stays", probe.cursor(), "0,4");
        probe.csi("?49l").csi("?49l");
        Full.rowsDue("off, and off while off", probe, "abcdef");
        Check.due("off while off: the cursor stays", probe.cursor(), "2,4");
        probe.csi("6;6H").csi("?49l");
        Check.due("off while off, elsewhere", probe.cursor(), "5,5");
        probe.csi("?49h");
        Check.due("on again: what OTHER had is gone", probe.firstSigns(), "......");
        probe.csi("?49l");
        Check.due("the later cursor comes back", probe.cursor(), "5,5");
    }

    /** All but OTHER itself and the rows kept off the screen. */
    private static String pictureOfTheScreen(Probe probe) {
        return probe.picture().replaceAll("modes [0-7]", "").replaceAll("\\nkept .*", "");
    }

    /** In OTHER every byte and sequence does what it does outside, only that no row is kept. */
    private static void otherIsAScreenToo() {
        String start = Full.bytes() + "\u001b[2;4r\u001b[3;5H";
        String[] more = {"x", "\b", "\t", "\n", "\n\n", "\r", "^7^[H^8", "^D^D", "^E", "^M^M", "^[A", "^[9B", "^[C", "^[D", "^[G", "^[d", "^[H",
            "^[J", "^[1J", "^[2J", "^[K", "^[1K", "^[2X", "^[2P", "^[2@", "^[L", "^[M", "^[S", "^[T", "^[r^[2S", "^[3;6r", "^[6;6r",
            "^[1m#", "^[4h#", "^[?7l^[12G##", "^[12G##", "^[6;12H##"};
        for (String written : more) {
            String bytes = start + written.replace('^', '\u001b');
            Probe outside = new Probe().threes(bytes);
            Probe inOther = new Probe().threes("\u001b[?49h" + bytes);
            Check.due("in OTHER, ^ for 27: " + written, pictureOfTheScreen(inOther), pictureOfTheScreen(outside));
        }
    }

    /** The rows kept off the screen are the same in OTHER, and none comes to them. */
    private static void otherKeepsNoRows() {
        Probe probe = new Probe();
        probe.type("a").csi("S").csi("?49h").type("b").csi("S").csi("6;12H").type("xy").bytes(10).esc("D").esc("E").csi("99S");
        Check.due("no row of OTHER is kept", probe.firstKept(), "a");
        probe.csi("?49l").csi("H").type("c").csi("S");
        Check.due("rows are kept again", probe.firstKept(), "ca");
    }

    /** '27 c all becomes as at first, but what is shown; no lines are kept off the screen': from five states, then told the same. */
    private static void allAsAtFirst() {
        String[] later = {"", "\u001b8", "\u001b[?49l", "\u001b[?49h\u001b[?49l", "4h", "\n\n\n\n\n\n\n", "\u001b[S"};
        for (String past : new String[] {"", Twins.BUSY, Twins.BUSY_OTHER, Twins.BUSY + "\u001b[?7l\u001b[3;4", Twins.BUSY_OTHER + "\u001b[?49"}) {
            for (String bytes : later) {
                Probe used = new Probe().threes(past).esc("c").type(bytes);
                Check.due("as at first, then " + bytes.replace("\u001b", "27 "), used.picture(), new Probe().type(bytes).picture());
            }
        }
    }

    private static void shownStays() {
        Probe probe = Full.screen("2;4", 2, 4);
        probe.refresh();
        probe.esc("c");
        Check.due("shown(0, 0) after 27 c", probe.shown(0, 0), 'a' + 128);
        Check.due("shown(5, 11) after 27 c", probe.shown(5, 11), '-' + 128 * 6);
        Check.due("stale after 27 c", probe.stale(), 72);
        Check.due("refresh after 27 c", probe.refresh(), 72);
        Check.due("shown(0, 0) then", probe.shown(0, 0), 32);
    }

    public static void main(String[] args) {
        everyNumber();
        firstNumber();
        nothingIsDone();
        otherOn();
        otherOff();
        otherAgain();
        otherIsAScreenToo();
        otherKeepsNoRows();
        allAsAtFirst();
        shownStays();
        Check.end();
    }
}
