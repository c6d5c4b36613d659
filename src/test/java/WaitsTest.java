/** Promise 8 and the paragraph on WAITS: what switches it off, and what leaves it as it is. */
public final class WaitsTest {
    private static final String ENDING_LAST = "ABCDGdHJKXP@LMSTr";
    private static final String ENDING_SECOND = "8DEMc";
    private static final String[] NUMBERS = {"", "0", "1", "2", "3", "4", "7", "49", "99", "1;1", "4;4", "2;4", "9;9", "1;12"};

    private static Probe waiting(String region, int row) {
        Probe probe = new Probe().csi(region + "r").csi((row + 1) + ";12H").type("x");
        Check.due("WAITS at first", probe.cursor(), row + ",11W");
        return probe;
    }

    /** 'by every whole sequence named above, whatever it does, but not by 27 7, m, h and l': each second byte. */
    private static void secondBytes() {
        for (int b = 0; b <= 127; b++) {
            if (b != 27 && b != 91) {
                boolean ends = ENDING_SECOND.indexOf(b) >= 0;
                Check.due("WAITS after 27 " + b, waiting("1;6", 2).bytes(27, b).waits(), !ends);
            }
        }
    }

    /** The same for each last byte, with numbers for which it does much, little or nothing. */
    private static void lastBytes() {
        for (int last = 64; last <= 126; last++) {
            boolean ends = ENDING_LAST.indexOf(last) >= 0;
            for (String numbers : NUMBERS) {
                for (String region : new String[] {"1;6", "4;5"}) {
                    Probe probe = waiting(region, 2).csi(numbers).bytes(last);
                    String what = "region " + region + ", " + numbers + (char) last;
                    Check.due("WAITS after " + what, probe.waits(), !ends);
                    if (!ends) {
                        Check.due("cursor after " + what, probe.cursor(), "2,11W");
                    }
                }
            }
        }
    }

    /** 'those with 63 and another last byte than h and l, leave WAITS as it is', and so do h and l, but for OTHER. */
    private static void markedLastBytes() {
        for (int last = 64; last <= 126; last++) {
            for (String numbers : NUMBERS) {
                boolean other = last == 'h' && numbers.equals("49");
                Probe probe = waiting("1;6", 2).csi("?" + numbers).bytes(last);
                Check.due("cursor after ? " + numbers + (char) last, probe.cursor(), other ? "0,0" : "2,11W");
            }
        }
    }

    /** 'when h or l switches OTHER to what it was not, WAITS is switched off too'. */
    private static void otherAndWaits() {
        Probe probe = waiting("1;6", 0).csi("?49l");
        Check.due("OTHER off while off", probe.cursor(), "0,11W");
        probe.csi("?49h");
        Check.due("OTHER on while off", probe.cursor(), "0,0");
        probe.csi("12G").type("y");
        Check.due("WAITS in OTHER", probe.cursor(), "0,11W");
        probe.csi("?49h");
        Check.due("OTHER on while on", probe.cursor(), "0,11W");
        probe.csi("?49l");
        Check.due("OTHER off while on: WAITS neither stays nor comes back", probe.cursor(), "0,11");
        probe.type("z");
        Check.due("a sign in column 11 then", probe.cursor(), "0,11W");
    }

    /** 'by every sign (which may switch it on then)'. */
    private static void signs() {
        Probe probe = waiting("1;6", 0).type("a");
        Check.due("a sign", probe.cursor(), "1,1");
        probe.type("bcdefghijk");
        Check.due("eleven signs", probe.cursor(), "1,11");
        probe.type("l");
        Check.due("twelve signs", probe.cursor(), "1,11W");
        Probe off = waiting("1;6", 0).csi("?7l").csi("4h").type("a");
        Check.due("with WRAP off and INSERT on", off.cursor(), "1,1");
        off.csi("12G").type("b");
        Check.due("WRAP off, column 11", off.cursor(), "1,11");
    }

    /** 'by the bytes 8, 9, 10 and 13'; other bytes leave it. */
    private static void bytesOutside() {
        for (int b = 0; b < 32; b++) {
            String due = b == 8 ? "2,10" : b == 9 ? "2,11" : b == 10 ? "3,11" : b == 13 ? "2,0" : "2,11W";
            Check.due("byte " + b, waiting("1;6", 2).bytes(b).cursor(), due);
        }
        Check.due("byte 127", waiting("1;6", 2).bytes(127).cursor(), "2,11W");
        Check.due("10 at the bottom of the region", waiting("2;3", 2).bytes(10).cursor(), "2,11");
        Check.due("10 in row 5, below the region", waiting("2;3", 5).bytes(10).cursor(), "5,11");
    }

    /** A sequence that is not whole, or that a byte which does not fit has ended, leaves it. */
    private static void notWhole() {
        for (String start : new String[] {"\u001b", "\u001b[", "\u001b[3", "\u001b[3;", "\u001b[?", "\u001b[?49"}) {
            Check.due("not whole", waiting("1;6", 2).type(start).cursor(), "2,11W");
            for (int b : new int[] {0, 8, 9, 10, 13, 31, 32, 127}) {
                Check.due("ended by " + b, waiting("1;6", 2).type(start).bytes(b).cursor(), "2,11W");
            }
        }
    }

    /** WAITS is no part of what 27 7 keeps. */
    private static void notKept() {
        Check.due("27 7 27 8", waiting("1;6", 2).esc("7").esc("8").cursor(), "2,11");
        Check.due("27 8 to a place without WAITS", waiting("1;6", 2).esc("8").cursor(), "0,0");
    }

    public static void main(String[] args) {
        secondBytes();
        lastBytes();
        markedLastBytes();
        otherAndWaits();
        signs();
        bytesOutside();
        notWhole();
        notKept();
        Check.end();
    }
}
