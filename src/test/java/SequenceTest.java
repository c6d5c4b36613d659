/** Promise 12 and the reading of sequences: their bytes, their numbers, what does not fit. */
public final class SequenceTest {
    private static void states() {
        Probe probe = new Probe();
        probe.bytes(27);
        Check.due("after 27", probe.ask().sequence(), 1);
        probe.bytes(27);
        Check.due("after 27 27", probe.ask().sequence(), 1);
        probe.type("[");
        Check.due("after 91", probe.ask().sequence(), 2);
        for (String part : new String[] {"?", "4", ";", "9", ";"}) {
            probe.type(part);
            Check.due("after " + part, probe.ask().sequence(), 2);
        }
        probe.type("C");
        Check.due("after the last byte", probe.ask().sequence(), 0);
        for (String last : new String[] {"7", "8", "D", "E", "M", "c", "A", "x", "]"}) {
            probe.esc(last);
            Check.due("after 27 " + last, probe.ask().sequence(), 0);
        }
        probe.csi("3").bytes(27);
        Check.due("27 inside begins another one", probe.ask().sequence(), 1);
        probe.type("[2C");
        Check.due("the other one is done", probe.cursor(), "0,2");
    }

    private static void misfitsAfterEscape() {
        Probe probe = new Probe();
        probe.type("ab");
        for (int b : new int[] {0, 8, 9, 10, 13, 32, 48, 54, 57, 63, 65, 90, 92, 98, 100, 126, 127}) {
            probe.bytes(27, b);
            Check.due("sequence after 27 " + b, probe.ask().sequence(), 0);
            Check.due("cursor after 27 " + b, probe.cursor(), "0,2");
        }
        Check.due("nothing is written", probe.line(0), "ab..........");
    }

    private static void misfitsInside() {
        Probe probe = new Probe();
        probe.type("ab");
        for (int b : new int[] {0, 8, 9, 10, 13, 26, 28, 31, 32, 47, 58, 60, 62, 127}) {
            probe.csi("3").bytes(b);
            Check.due("sequence after 27 [ 3 " + b, probe.ask().sequence(), 0);
            Check.due("cursor after 27 [ 3 " + b, probe.cursor(), "0,2");
        }
        Check.due("nothing is written", probe.line(0), "ab..........");
        probe.type("C");
        Check.due("the next byte is a sign", probe.line(0), "abC.........");
    }

    private static void questionMark() {
        for (String start : new String[] {"7?", "?7?", "??", ";?"}) {
            Probe probe = new Probe();
            probe.csi(start);
            Check.due("sequence after " + start, probe.ask().sequence(), 0);
            probe.type("l");
            Check.due("modes after " + start + "l", probe.ask().modes(), 2);
            Check.due("l is a sign after " + start, probe.line(0), "l...........");
        }
        Probe again = new Probe();
        again.csi("?7").csi("3C");
        Check.due("a new sequence has no ?", again.cursor(), "0,3");
    }

    private static void numbers() {
        String[][] runs = {
            {"C", "0,1"}, {"0C", "0,1"}, {"1C", "0,1"}, {"3C", "0,3"}, {"003C", "0,3"}, {"10C", "0,10"},
            {"99C", "0,11"}, {"100C", "0,11"}, {"4294967297C", "0,11"}, {"4294967298G", "0,11"},
            {"256C", "0,11"}, {"H", "0,0"}, {"3H", "2,0"}, {";3H", "0,2"}, {"3;H", "2,0"}, {"4;5H", "3,4"},
            {"0;0H", "0,0"}, {"4;5;6H", "3,4"}, {"4;5;6;7;8;9H", "3,4"}, {";;9;9H", "0,0"},
            {"99;99H", "5,11"}, {"6;12H", "5,11"}, {"7;13H", "5,11"},
        };
        for (String[] run : runs) {
            Probe probe = new Probe();
            probe.csi(run[0]);
            Check.due("cursor after " + run[0], probe.cursor(), run[1]);
        }
        Probe after = new Probe();
        after.csi("4;5H").csi("H");
        Check.due("numbers do not stay for the next sequence", after.cursor(), "0,0");
    }

    private static void penNumbers() {
        Object[][] runs = {
            {"1m", 1}, {"4m", 2}, {"7m", 4}, {"1;4;7m", 7}, {"7;1m", 5}, {"m", 0}, {"1;m", 0}, {";1m", 1},
            {"2m", 0}, {"3;5;6;8m", 0}, {"99m", 0}, {"1;0;4m", 2}, {"2;2;2;1m", 1}, {"2;2;2;2;1m", 0},
            {"1;4;7;2;0m", 7}, {"1;4;7;2;22m", 7}, {"1;4;7;22m", 6}, {"1;4;7;24m", 5}, {"1;4;7;27m", 3},
            {"1;1m", 1}, {"22m", 0}, {"101m", 0}, {"107m", 0}, {"1;4;7;0m", 0}, {"7;7;7;;m", 0}, {"7;2;2;2;m", 4},
            {"1;4;7;23m", 7}, {"1;4;7;26m", 7}, {"22;1m", 1}, {"24;1m", 1}, {"27;1m", 1}, {"99;1m", 1},
        };
        for (Object[] run : runs) {
            Probe probe = new Probe();
            probe.csi((String) run[0]);
            Check.due("pen after " + run[0], probe.ask().pen(), run[1]);
        }
        Probe probe = new Probe();
        probe.csi("1;4;7m").csi("?0m").csi("22m");
        Check.due("pen after 22, without ?", probe.ask().pen(), 6);
        probe.csi("27m").csi("24m");
        Check.due("pen after 27 and 24", probe.ask().pen(), 0);
        probe.csi("7m").csi("m");
        Check.due("m without a number", probe.ask().pen(), 0);
        Probe longOne = new Probe();
        for (int i = 0; i < 128; i++) {
            longOne.type(i == 0 ? "\u001b[1" : ";4");
        }
        longOne.type("m");
        Check.due("pen after a long sequence", longOne.ask().pen(), 3);
    }

    public static void main(String[] args) {
        states();
        misfitsAfterEscape();
        misfitsInside();
        questionMark();
        numbers();
        penNumbers();
        Check.end();
    }
}
