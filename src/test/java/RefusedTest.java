import java.util.function.Consumer;

/**
 * Promises 2 and 3, 'false, changing nothing, when ..', and promises 4, 5, 14 and 16, 'BAD when
 * there is none': the last number on each side that is taken, the first that is not, and far ones.
 */
public final class RefusedTest {
    /** Far ones whose products with 12 wrap around to places on the screen are among them. */
    private static final int[] FAR = {100, -100, 357913942, -357913942, 1073741824, -1073741824,
        Integer.MIN_VALUE, Integer.MIN_VALUE + 1, Integer.MAX_VALUE};

    /** Promise 2: 'false, changing nothing, when it is not 0 .. 127'. */
    private static void feedOutOfRange() {
        int[] wrong = {-1, -2, 128, 129, 128 + 8, 128 + 10, 128 + 27, 128 + 'A', 256 + 'A', 65536 + 'A', -128 + 'A', 'A' - 256,
            Integer.MIN_VALUE, Integer.MIN_VALUE + 'A', Integer.MAX_VALUE};
        for (int b : wrong) {
            Consumer<Probe> feed = probe -> Check.due("feed(" + b + ")", probe.feed(b), false);
            Twins.alikeEverywhere("feed(" + b + ")", feed);
        }
    }

    private static void feedInRange() {
        for (int b = 0; b <= 127; b++) {
            Check.due("feed(" + b + ")", new Probe().feed(b), true);
        }
    }

    /** Promise 3: 'false, changing nothing, when the number is not 0 .. 2097151'. */
    private static void feedThreeOutOfRange() {
        int abc = 'A' + 128 * 'B' + 16384 * 'C';
        int[] wrong = {-1, -2, 2097152, 2097153, 2097152 + abc, 2 * 2097152 + abc, -2097152 + abc, -abc,
            Integer.MIN_VALUE, Integer.MIN_VALUE + abc, Integer.MAX_VALUE};
        for (int bytes : wrong) {
            Consumer<Probe> feed = probe -> Check.due("feedThree(" + bytes + ")", probe.feedThree(bytes), false);
            Twins.alikeEverywhere("feedThree(" + bytes + ")", feed);
        }
    }

    private static void feedThreeInRange() {
        int[] right = {0, 1, 127, 128, 129, 16383, 16384, 16385, 2097023, 2097024, 2080767, 2080768, 2097150, 2097151};
        for (int bytes : right) {
            Check.due("feedThree(" + bytes + ")", new Probe().feedThree(bytes), true);
        }
    }

    /** The letters a .. l with style 1 in row 0, A .. L with style 3 in row 5, all shown; the other rows are empty. */
    private static Probe fullRows() {
        Probe probe = new Probe();
        probe.csi("1m").type("abcdefghijkl").csi("6;1H").csi("4m").type("ABCDEFGHIJKL");
        probe.refresh();
        return probe;
    }

    private static void cell(Probe probe, int row, int column, int sign, int style) {
        String place = "(" + row + ", " + column + ")";
        boolean there = row >= 0 && row <= 5 && column >= 0 && column <= 11;
        Check.due("sign" + place, probe.sign(row, column), there ? sign : TerminalStack.BAD);
        Check.due("style" + place, probe.style(row, column), there ? style : TerminalStack.BAD);
        Check.due("shown" + place, probe.shown(row, column), there ? sign + 128 * style : TerminalStack.BAD);
    }

    /** Promises 4, 5 and 16: 'BAD when there is none', row and column each just inside and just outside. */
    private static void placesAroundTheScreen() {
        for (int row = -1; row <= 6; row++) {
            Probe probe = fullRows();
            for (int column = -1; column <= 12; column++) {
                int sign = row == 0 ? 'a' + column : row == 5 ? 'A' + column : 32;
                int style = row == 0 ? 1 : row == 5 ? 3 : 0;
                cell(probe, row, column, sign, style);
            }
        }
    }

    private static void placesFarOff() {
        Probe probe = fullRows();
        for (int far : FAR) {
            cell(probe, far, 0, 0, 0);
            cell(probe, 5, far, 0, 0);
            cell(probe, far, 11, 0, 0);
            cell(probe, far, far, 0, 0);
        }
    }

    /** Promise 14: 'BAD when there is none', with 0 .. 9 rows lost. */
    private static void keptRowsThatAreNotThere() {
        for (int lost = 0; lost <= 9; lost++) {
            Probe probe = new Probe();
            for (int i = 0; i < lost; i++) {
                probe.type("\r" + (char) ('a' + i) + ".........." + (char) ('A' + i)).csi("S");
            }
            int count = Math.min(lost, 8);
            Check.due("keptRows after " + lost, probe.keptRows(), count);
            for (int i = -1; i <= 9; i++) {
                boolean there = i >= 0 && i < count;
                String what = lost + " rows lost, kept(" + i;
                Check.due(what + ", -1)", probe.kept(i, -1), TerminalStack.BAD);
                Check.due(what + ", 0)", probe.kept(i, 0), there ? 'a' + lost - 1 - i : TerminalStack.BAD);
                Check.due(what + ", 11)", probe.kept(i, 11), there ? 'A' + lost - 1 - i : TerminalStack.BAD);
                Check.due(what + ", 12)", probe.kept(i, 12), TerminalStack.BAD);
            }
            for (int far : FAR) {
                Check.due("kept(" + far + ", 0)", probe.kept(far, 0), TerminalStack.BAD);
                Check.due("kept(0, " + far + ")", probe.kept(0, far), TerminalStack.BAD);
                Check.due("kept(" + far + ", " + far + ")", probe.kept(far, far), TerminalStack.BAD);
            }
        }
    }

    /** A question, also one with the answer BAD, changes nothing. */
    private static void questionsChangeNothing() {
        Twins.alikeEverywhere("questions", probe -> {
            int[] answers = {probe.sign(6, 0), probe.style(0, 12), probe.shown(-1, -1), probe.kept(8, 0), probe.kept(-1, 0)};
            for (int answer : answers) {
                Check.due("a question about no place", answer, TerminalStack.BAD);
            }
            probe.cursor();
            probe.stale();
            probe.region();
            probe.modes();
            probe.pen();
            probe.sequence();
            probe.keptRows();
        });
    }

    public static void main(String[] args) {
        feedOutOfRange();
        feedInRange();
        feedThreeOutOfRange();
        feedThreeInRange();
        placesAroundTheScreen();
        placesFarOff();
        keptRowsThatAreNotThere();
        questionsChangeNothing();
        Check.end();
    }
}
