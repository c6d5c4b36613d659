/** Promises 2 and 3 (what is fed and what is refused), 4 to 8 (signs, WAITS, the bytes outside of a sequence). */
public final class FeedTest {
    private static void wrongBytes() {
        Probe probe = new Probe();
        probe.csi("3");
        for (int b : new int[] {-1, 128, 129, 155, 256 + 65, -128 + 65, Integer.MIN_VALUE, Integer.MAX_VALUE}) {
            Check.due("feed(" + b + ")", probe.ask().feed(b), false);
        }
        for (int b : new int[] {-1, 2097152, 2097153, 2097152 + 65, Integer.MIN_VALUE, Integer.MAX_VALUE}) {
            Check.due("feedThree(" + b + ")", probe.ask().feedThree(b), false);
        }
        Check.due("sequence goes on", probe.ask().sequence(), 2);
        probe.type("C");
        Check.due("cursor", probe.cursor(), "0,3");
        Check.due("nothing is written", probe.ask().stale(), 0);
        Check.due("feed(0)", probe.ask().feed(0), true);
        Check.due("feed(127)", probe.ask().feed(127), true);
        Check.due("cursor after 0 and 127", probe.cursor(), "0,3");
    }

    private static void threeAtOnce() {
        Probe probe = new Probe();
        Check.due("feedThree a b c", probe.ask().feedThree('a' + 128 * 'b' + 16384 * 'c'), true);
        Check.due("b first", probe.line(0), "abc.........");
        Check.due("feedThree(0)", probe.ask().feedThree(0), true);
        Check.due("feedThree(2097151)", probe.ask().feedThree(2097151), true);
        Check.due("three bytes that do nothing", probe.cursor(), "0,3");
        Check.due("feedThree 27 [ H", probe.ask().feedThree(27 + 128 * '[' + 16384 * 'H'), true);
        Check.due("a whole sequence", probe.cursor(), "0,0");
        Check.due("feedThree x 27 [", probe.ask().feedThree('x' + 128 * 27 + 16384 * '['), true);
        Check.due("the sequence stays open", probe.ask().sequence(), 2);
    }

    private static void signsAndWrap() {
        Probe probe = new Probe();
        probe.type(" !~").bytes(127, 31, 0, 7, 11, 12, 14);
        Check.due("32, 33 and 126 are signs", probe.ask().sign(0, 2), 126);
        Check.due("other bytes do nothing", probe.cursor(), "0,3");
        probe.type("defghijk");
        Check.due("at column 11", probe.cursor(), "0,11");
        probe.type("l");
        Check.due("WAITS in column 11", probe.cursor(), "0,11W");
        probe.bytes(127, 0, 1);
        Check.due("other bytes leave WAITS", probe.cursor(), "0,11W");
        probe.type("m");
        Check.due("wrapped", probe.cursor(), "1,1");
        Check.due("row 0", probe.line(0), ".!~defghijkl");
        Check.due("row 1", probe.line(1), "m...........");
    }

    private static void wrapOff() {
        Probe probe = new Probe();
        probe.csi("?7l").csi("12G").type("ab");
        Check.due("the column stays", probe.cursor(), "0,11");
        Check.due("written over", probe.line(0), "...........b");
        probe.csi("?7h").type("c");
        Check.due("WAITS with WRAP on", probe.cursor(), "0,11W");
        probe.csi("?7l");
        Check.due("WAITS stays when WRAP goes", probe.cursor(), "0,11W");
        probe.type("d");
        Check.due("WAITS is heeded with WRAP off", probe.cursor(), "1,1");
        Check.due("row 0", probe.line(0), "...........c");
        Check.due("row 1", probe.line(1), "d...........");
    }

    private static void wrapScrolls() {
        Probe probe = new Probe();
        probe.fillRows().csi("6;12H").type("xy");
        Check.due("the wrap scrolls", probe.firstSigns(), "bcdefy");
        Check.due("the row lost is kept", probe.firstKept(), "a");
        Check.due("row 4", probe.line(4), "f..........x");
        Check.due("cursor", probe.cursor(), "5,1");
    }

    private static void insertMode() {
        Probe probe = new Probe();
        probe.type("abcdefghijkl").csi("4h").csi("3G").csi("1m").type("X");
        Check.due("the row moves", probe.line(0), "abXcdefghijk");
        Check.due("with the pen", probe.styles(0), "001000000000");
        probe.csi("12G").type("Y");
        Check.due("in the last column", probe.line(0), "abXcdefghijY");
        Check.due("WAITS", probe.cursor(), "0,11W");
        probe.type("Z");
        Check.due("insert after the wrap leaves row 0", probe.line(0), "abXcdefghijY");
        Check.due("insert after the wrap", probe.line(1), "Z...........");
        probe.csi("1G").type("W");
        Check.due("styles move too", probe.styles(1), "110000000000");
    }

    private static void backTabReturn() {
        Probe probe = new Probe();
        probe.bytes(8);
        Check.due("8 in column 0", probe.cursor(), "0,0");
        String[] stops = {"0,4", "0,4", "0,4", "0,4", "0,8", "0,8", "0,8", "0,8", "0,11", "0,11", "0,11", "0,11"};
        for (int column = 0; column < 12; column++) {
            probe.csi((column + 1) + "G").bytes(9);
            Check.due("9 in column " + column, probe.cursor(), stops[column]);
        }
        probe.bytes(8);
        Check.due("8", probe.cursor(), "0,10");
        probe.bytes(13);
        Check.due("13", probe.cursor(), "0,0");
    }

    private static void controlsEndWaits() {
        String[] due = {"0,10", "0,11", "1,11", "0,0"};
        int[] controls = {8, 9, 10, 13};
        for (int i = 0; i < controls.length; i++) {
            Probe probe = new Probe();
            probe.csi("12G").type("x").bytes(controls[i]);
            Check.due("WAITS and " + controls[i], probe.cursor(), due[i]);
        }
    }

    private static void lineFeeds() {
        Probe probe = new Probe();
        probe.csi("3G").bytes(10);
        Check.due("10 keeps the column", probe.cursor(), "1,2");
        probe.csi("2;4r").csi("4;5H").bytes(10);
        Check.due("at the bottom of the region", probe.cursor(), "3,4");
        probe.csi("5;1H").bytes(10, 10, 10);
        Check.due("below the region", probe.cursor(), "5,0");
        Check.due("nothing scrolls off", probe.ask().keptRows(), 0);
        probe.csi("1;1H").bytes(10);
        Check.due("above the region", probe.cursor(), "1,0");
    }

    public static void main(String[] args) {
        wrongBytes();
        threeAtOnce();
        signsAndWrap();
        wrapOff();
        wrapScrolls();
        insertMode();
        backTabReturn();
        controlsEndWaits();
        lineFeeds();
        Check.end();
    }
}
