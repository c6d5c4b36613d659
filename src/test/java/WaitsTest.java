/** Promises 8 and 18: what switches WAITS off and what leaves it as it is. */
public final class WaitsTest {
    private static Probe waiting(String before) {
        Probe probe = new Probe();
        probe.csi(before).csi("1;12H").type("x");
        Check.due("WAITS at first", probe.ask().waits(), true);
        return probe;
    }

    private static void endedBy(String... sequences) {
        for (String sequence : sequences) {
            Probe probe = waiting("r").esc(sequence);
            Check.due("WAITS after 27 " + sequence, probe.ask().waits(), false);
        }
    }

    private static void leftBy(String... sequences) {
        for (String sequence : sequences) {
            Probe probe = waiting("r").esc(sequence);
            Check.due("cursor and WAITS after 27 " + sequence, probe.cursor(), "0,11W");
        }
    }

    private static void outsideOfTheRegion() {
        for (String sequence : new String[] {"L", "M", "9L", "9M"}) {
            Probe probe = waiting("2;4r").csi(sequence);
            Check.due("above the region, " + sequence, probe.cursor(), "0,11");
        }
    }

    private static void otherAndWaits() {
        Probe probe = waiting("r").csi("?49h");
        Check.due("OTHER switched on", probe.cursor(), "0,0");
        probe.csi("12G").type("y").csi("?49h");
        Check.due("OTHER switched on while on", probe.cursor(), "0,11W");
        probe.csi("?49l");
        Check.due("WAITS does not come back", probe.cursor(), "0,11");
        probe.type("z");
        Check.due("WAITS after a sign", probe.cursor(), "0,11W");
        probe.csi("?49l");
        Check.due("OTHER switched off while off", probe.cursor(), "0,11W");
    }

    private static void misfits() {
        for (int b : new int[] {8, 9, 10, 13}) {
            Check.due("27 " + b, waiting("r").bytes(27, b).cursor(), "0,11W");
            Check.due("27 [ 3 " + b, waiting("r").csi("3").bytes(b).cursor(), "0,11W");
        }
    }

    private static void signsSwitchOffAndOn() {
        Probe probe = new Probe();
        probe.type("abcdefghijklmnopqrstuvwx");
        Check.due("a second full row", probe.cursor(), "1,11W");
        probe.bytes(13).type("A");
        Check.due("13, then a sign", probe.cursor(), "1,1");
        Check.due("row 1", probe.line(1), "Anopqrstuvwx");
    }

    private static void keptWithWaits() {
        Probe probe = waiting("r").esc("7").esc("8");
        Check.due("27 8 does not bring WAITS back", probe.cursor(), "0,11");
    }

    public static void main(String[] args) {
        endedBy("8", "D", "E", "M", "c", "[A", "[B", "[C", "[D", "[G", "[d", "[H", "[J", "[1J", "[3J", "[K", "[9K", "[X", "[P",
            "[@", "[L", "[M", "[S", "[T", "[r", "[4;4r", "[9;9r", "[12G", "[1d", "[1;12H");
        leftBy("7", "[m", "[1m", "[4h", "[4l", "[9h", "[9l", "[?7h", "[?7l", "[?9h", "[?9l", "[?49l", "[E", "[F", "[n", "[s", "[u",
            "[~", "[?A", "[?C", "[?H", "[?J", "[?K", "[?2J", "[?m", "[?r", "[?49m", "A", "x", "9", "[[", "[3\u007f", "[3?", "[3<");
        outsideOfTheRegion();
        otherAndWaits();
        misfits();
        signsSwitchOffAndOn();
        keptWithWaits();
        Check.end();
    }
}
