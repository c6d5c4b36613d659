/**
 * Long mixed runs, the same each time: no call throws, every answer stays in its range, and the
 * answers agree with each other (LANGUAGE.md, rule 7; promises 2 to 18).
 */
public final class MixedTest {
    private static final String LIKELY = "\u001b\u001b\u001b[[[?;0123456789ABCDGHJKLMPSTX@dhlmrc7 8E\n\r\t\bxyz";
    private static long state = 1;

    /** A number 0 .. bound - 1 from a plain linear rule, so that every run is alike. */
    private static int next(int bound) {
        state = state * 6364136223846793005L + 1442695040888963407L;
        return (int) ((state >>> 33) % bound);
    }

    private static int nextByte() {
        return next(8) == 0 ? next(128) : LIKELY.charAt(next(LIKELY.length()));
    }

    private static void within(String what, int got, int least, int most) {
        if (got < least || got > most) {
            Check.due(what + " within " + least + " .. " + most, got, least);
        }
    }

    private static void look(TerminalStack stack) {
        within("row", stack.row(), 0, 5);
        within("column", stack.column(), 0, 11);
        within("pen", stack.pen(), 0, 7);
        within("modes", stack.modes(), 0, 7);
        within("sequence", stack.sequence(), 0, 2);
        within("keptRows", stack.keptRows(), 0, 8);
        within("top", stack.region() % 10, 0, 4);
        within("bottom", stack.region() / 10, stack.region() % 10 + 1, 5);
        if (stack.waits()) {
            within("column of WAITS", stack.column(), 11, 11);
        }
        int row = next(8) - 1;
        int column = next(14) - 1;
        boolean there = row >= 0 && row < 6 && column >= 0 && column < 12;
        within("sign", stack.sign(row, column), there ? 32 : -1, there ? 126 : -1);
        within("style", stack.style(row, column), there ? 0 : -1, there ? 7 : -1);
        within("shown", stack.shown(row, column), there ? 32 : -1, there ? 126 + 128 * 7 : -1);
        int i = next(10) - 1;
        boolean kept = i >= 0 && i < stack.keptRows() && column >= 0 && column < 12;
        within("kept", stack.kept(i, column), kept ? 32 : -1, kept ? 126 : -1);
    }

    private static void bringUpToDate(TerminalStack stack) {
        int stale = stack.stale();
        Check.due("refresh answers what stale did", stack.refresh(), stale);
        Check.due("stale after refresh", stack.stale(), 0);
        int row = next(6);
        int column = next(12);
        Check.due("shown", stack.shown(row, column), stack.sign(row, column) + 128 * stack.style(row, column));
    }

    /** One is fed byte by byte, the other by threes: they must not come to differ. */
    private static void run() {
        TerminalStack one = new TerminalStack();
        TerminalStack three = new TerminalStack();
        for (int step = 0; step < 100; step++) {
            int b = nextByte();
            int c = nextByte();
            int d = nextByte();
            boolean fed = one.feed(b) && one.feed(c) && one.feed(d);
            Check.due("feed", fed, true);
            Check.due("feedThree", three.feedThree(b + 128 * c + 16384 * d), true);
        }
        look(one);
        bringUpToDate(one);
        three.refresh();
        for (int at = 0; at < 72; at++) {
            Check.due("shown by both", three.shown(at / 12, at % 12), one.shown(at / 12, at % 12));
        }
        Check.due("cursor of both", three.row() * 12 + three.column(), one.row() * 12 + one.column());
        Check.due("modes of both", three.modes(), one.modes());
    }

    public static void main(String[] args) {
        for (int i = 0; i < 3000; i++) {
            run();
        }
        Check.end();
    }
}
