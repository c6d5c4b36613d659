/** Promise 12, and the paragraph on what a sequence is: its bytes, its numbers, what does not fit, what is not named. */
public final class SequenceTest {
    private static final String NAMED_SECOND = "78DEMc";
    private static final String NAMED_LAST = "ABCDGdHJKXP@LMSTrmhl";
    private static final String[] PASTS = {"", Twins.BUSY, Twins.BUSY_OTHER};

    private static void nothingIsDone(String what, String bytes) {
        for (String past : PASTS) {
            Twins.alike(what, past, probe -> probe.type(bytes));
        }
    }

    /** Promise 12: '0 outside of a sequence, 1 right after the 27 that begins one, 2 from its 91 on'. */
    private static void states() {
        Probe probe = new Probe();
        Check.due("at first", probe.sequence(), 0);
        probe.bytes(27);
        Check.due("after 27", probe.sequence(), 1);
        probe.bytes(27);
        Check.due("after 27 27", probe.sequence(), 1);
        for (String part : new String[] {"[", "?", "4", ";", "9", ";", ";", "0"}) {
            probe.type(part);
            Check.due("after " + part, probe.sequence(), 2);
        }
        probe.type("C");
        Check.due("after the last byte", probe.sequence(), 0);
        probe.type("[");
        Check.due("91 outside of a sequence", probe.sequence(), 0);
    }

    /** '27 and one of these bytes, or 27, 91': each of the 128 bytes behind a 27. */
    private static void secondBytes() {
        for (int b = 0; b <= 127; b++) {
            Probe probe = new Probe().bytes(27, b);
            Check.due("sequence after 27 " + b, probe.sequence(), b == 27 ? 1 : b == 91 ? 2 : 0);
            boolean fits = b == 27 || b == 91 || NAMED_SECOND.indexOf(b) >= 0;
            if (!fits) {
                nothingIsDone("27 " + b, "\u001b" + (char) b);
            }
        }
    }

    /** 'A byte that does not fit ends the sequence, and nothing is done': each of the 128 bytes behind seven beginnings. */
    private static void bytesInside() {
        for (String start : new String[] {"[", "[?", "[3", "[3;", "[?49", "[?49;", "[1;2;3;4;5"}) {
            for (int b = 0; b <= 127; b++) {
                boolean goesOn = b >= 48 && b <= 57 || b == 59 || b == 63 && start.equals("[");
                boolean last = b >= 64 && b <= 126;
                Probe probe = new Probe().esc(start).bytes(b);
                Check.due("sequence after 27 " + start + ", " + b, probe.sequence(), b == 27 ? 1 : goesOn ? 2 : 0);
                if (!goesOn && !last && b != 27) {
                    nothingIsDone("27 " + start + ", " + b, "\u001b" + start + (char) b);
                }
            }
        }
    }

    /** '27 begins another one': the numbers and the ? of the one broken off do not count in it. */
    private static void begunAnew() {
        Probe probe = new Probe().csi("3;4").csi("C");
        Check.due("27 [ 3 ; 4 27 [ C", probe.cursor(), "0,1");
        probe.csi("?").csi("4h");
        Check.due("27 [ ? 27 [ 4 h", probe.modes(), 3);
        probe.csi("?49").bytes(27, 27).type("[6;6H");
        Check.due("27 [ ? 4 9 27 27 [ 6 ; 6 H", probe.cursor(), "5,5");
        probe.bytes(27).csi("2;2H");
        Check.due("27 27 [ 2 ; 2 H", probe.cursor(), "1,1");
        probe.csi("5;5").esc("D");
        Check.due("27 [ 5 ; 5 27 D", probe.cursor(), "2,1");
    }

    /** Neither what a whole sequence had nor what a byte that did not fit has ended is left for the next one. */
    private static void nothingIsLeft() {
        Check.due("numbers of a whole sequence", new Probe().csi("4;5H").csi("H").cursor(), "0,0");
        Check.due("? of a whole sequence", new Probe().csi("?4h").csi("4h").modes(), 3);
        Check.due("numbers, ended by 32", new Probe().csi("4;5 ").csi("H").cursor(), "0,0");
        Check.due("? ended by 127", new Probe().csi("?\u007f").csi("4h").modes(), 3);
        Check.due("five numbers, then one", new Probe().csi("1;1;1;1;1m").csi("0;4m").pen(), 2);
    }

    /** The byte behind one that does not fit is outside again. */
    private static void outsideAgain() {
        Probe probe = new Probe().csi("3 C").bytes(27, 32).type("D");
        Check.due("both are signs", probe.line(0), "CD..........");
        probe.csi("3\r\t");
        Check.due("9 behind a 13 that did not fit", probe.cursor(), "0,4");
    }

    /** 'The 63 can only come right behind the 91.' */
    private static void questionMark() {
        for (String start : new String[] {"7?", "?7?", "??", ";?", "?;?", "0?", "1;?"}) {
            Probe probe = new Probe().csi(start);
            Check.due("sequence after " + start, probe.sequence(), 0);
            probe.type("7l");
            Check.due("modes after " + start + "7l", probe.modes(), 2);
            Check.due("signs after " + start, probe.line(0), "7l..........");
        }
        Check.due("? right behind", new Probe().csi("?7l").modes(), 0);
        Check.due("63 right behind the 27", new Probe().esc("?7l").line(0), "7l..........");
    }

    /** 'one number more than there are bytes 59; one of which no digit is written is 0', and n is 1 then. */
    private static void numbersNotWritten() {
        String[][] runs = {
            {"C", "0,1"}, {"0C", "0,1"}, {"00C", "0,1"}, {"1C", "0,1"}, {"2C", "0,2"}, {"002C", "0,2"}, {"10C", "0,10"}, {";5C", "0,1"},
            {"H", "0,0"}, {"3H", "2,0"}, {";3H", "0,2"}, {"3;H", "2,0"}, {"3;4H", "2,3"}, {";H", "0,0"}, {"0;0H", "0,0"},
            {"1;1H", "0,0"}, {"0;4H", "0,3"}, {"3;0H", "2,0"}, {";;5;5H", "0,0"}, {"3;4;5H", "2,3"}, {"3;;5H", "2,0"},
        };
        for (String[] run : runs) {
            Check.due("cursor after " + run[0], new Probe().csi(run[0]).cursor(), run[1]);
        }
        Object[][] pens = {
            {"m", 0}, {"0m", 0}, {";m", 0}, {"1m", 5}, {"1;m", 0}, {";1m", 1}, {"1;;4m", 2}, {";;;1m", 1}, {"1;4;;m", 0}, {"4;2;2m", 6},
            {"4;2;2;m", 0},
        };
        for (Object[] run : pens) {
            Check.due("pen 4, then " + run[0], new Probe().csi("7m").csi((String) run[0]).pen(), run[1]);
        }
    }

    /** 'one above 99 counts as 99': also where its last digits, or what wraps around, would be a number that counts. */
    private static void numbersAboveNinetyNine() {
        String[] above = {"100", "101", "104", "107", "122", "128", "149", "199", "256", "260", "305", "999", "1000", "1004", "1049", "10000",
            "65536", "65540", "65585", "1000000004", "2147483647", "2147483648", "4294967296", "4294967300", "4294967303", "4294967345",
            "18446744073709551616", "18446744073709551620", "18446744073709551665"};
        for (String number : above) {
            Check.due("G " + number, new Probe().csi(number + "G").cursor(), "0,11");
            Check.due("d " + number, new Probe().csi(number + "d").cursor(), "5,0");
            Check.due("H 2 ; " + number, new Probe().csi("2;" + number + "H").cursor(), "1,11");
            Check.due("r 2 ; " + number, new Probe().csi("2;" + number + "r").region(), 50);
            Check.due("m " + number, new Probe().csi("1;4;7m").csi(number + "m").pen(), 7);
            Check.due("m from 0, " + number, new Probe().csi(number + ";" + number + "m").pen(), 0);
            Check.due("h " + number, new Probe().csi(number + "h").modes(), 2);
            Check.due("? h " + number, new Probe().csi("?" + number + "h").modes(), 2);
            Check.due("? l " + number, new Probe().csi("?" + number + "l").modes(), 2);
            Check.due("J " + number, new Probe().type("ab").csi(number + "J").stale(), 2);
        }
        for (int number = 50; number <= 99; number++) {
            Check.due("? h " + number, new Probe().csi("?" + number + "h").modes(), 2);
            Check.due("m " + number, new Probe().csi("1;4;7m").csi(number + "m").pen(), 7);
        }
    }

    /** 'of more than four the first four count': the fourth does, the fifth neither counts nor changes another. */
    private static void moreThanFour() {
        Object[][] runs = {
            {"2;2;2;1m", 1}, {"2;2;2;2;1m", 0}, {"1;4;7;0m", 0}, {"1;4;7;2;0m", 7}, {"1;4;7;2;m", 7}, {"1;4;7;2;2m", 7}, {"1;4;7;2;4m", 7},
            {"1;4;7;2;7m", 7}, {"1;4;7;2;22m", 7}, {"1;4;7;22m", 6}, {"1;4;7;22;1m", 6}, {"1;4;7;24;2;4m", 5}, {"1;4;7;27;7;7;7;7m", 3},
            {"1;;;;m", 0}, {"1;2;2;2;;;;;m", 1}, {"2;2;2;;1m", 0},
        };
        for (Object[] run : runs) {
            Check.due("pen after " + run[0], new Probe().csi((String) run[0]).pen(), run[1]);
        }
        Check.due("H with five", new Probe().csi("3;4;5;6;7H").cursor(), "2,3");
        Check.due("H with nine", new Probe().csi("3;4;5;6;7;1;1;1;1H").cursor(), "2,3");
        Check.due("r with six", new Probe().csi("2;4;1;1;1;6r").region(), 31);
        Check.due("? h with five", new Probe().csi("?49;7;7;7;7h").modes(), 6);
        Check.due("? l with five, the fifth 7", new Probe().csi("?1;1;1;1;7l").modes(), 2);
        Check.due("sequence after the fourth 59", new Probe().csi("1;2;3;4;").sequence(), 2);
    }

    /** 'All other sequences do nothing.' */
    private static void notNamed() {
        for (int last = 64; last <= 126; last++) {
            for (String numbers : new String[] {"", "1", "4", "7", "49", "2;3"}) {
                if (NAMED_LAST.indexOf(last) < 0) {
                    nothingIsDone("last byte " + last + " with " + numbers, "\u001b[" + numbers + (char) last);
                }
                if (last != 'h' && last != 'l') {
                    nothingIsDone("last byte " + last + " with ? " + numbers, "\u001b[?" + numbers + (char) last);
                }
            }
        }
    }

    public static void main(String[] args) {
        states();
        secondBytes();
        bytesInside();
        begunAnew();
        nothingIsLeft();
        outsideAgain();
        questionMark();
        numbersNotWritten();
        numbersAboveNinetyNine();
        moreThanFour();
        notNamed();
        Check.end();
    }
}
