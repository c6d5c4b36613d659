import java.util.function.Function;

/** 'What it is', 'at most 512 calls': the 512th call is answered as promised, however much the others have fed. */
public final class CallsTest {
    private static int nthSign(int i) {
        return 33 + i % 94;
    }

    private static String signs(int count) {
        StringBuilder text = new StringBuilder();
        for (int i = 0; i < count; i++) {
            text.append((char) nthSign(i));
        }
        return text.toString();
    }

    private static void lastCall(String call, Function<Probe, Object> ask, Object byOnes, Object byThrees) {
        Probe ones = new Probe().type(signs(511));
        Check.due("call 512 after 511 calls of feed: " + call, ask.apply(ones), byOnes);
        Probe threes = new Probe().threes(signs(3 * 511));
        Check.due("call 512 after 511 calls of feedThree: " + call, ask.apply(threes), byThrees);
    }

    /** 511 signs are 42 rows and 7 signs, 1533 are 127 rows and 9 signs; all rows but six are lost. */
    private static void everyCallAsTheLast() {
        lastCall("feed(127)", probe -> probe.feed(127), true, true);
        lastCall("feed(128)", probe -> probe.feed(128), false, false);
        lastCall("feedThree(2097151)", probe -> probe.feedThree(2097151), true, true);
        lastCall("feedThree(2097152)", probe -> probe.feedThree(2097152), false, false);
        lastCall("sign(0, 0)", probe -> probe.sign(0, 0), nthSign(12 * 37), nthSign(12 * 122));
        lastCall("sign(5, 6)", probe -> probe.sign(5, 6), nthSign(510), nthSign(12 * 127 + 6));
        lastCall("sign(5, 8)", probe -> probe.sign(5, 8), 32, nthSign(1532));
        lastCall("sign(5, 9)", probe -> probe.sign(5, 9), 32, 32);
        lastCall("sign(6, 0)", probe -> probe.sign(6, 0), TerminalStack.BAD, TerminalStack.BAD);
        lastCall("style(5, 6)", probe -> probe.style(5, 6), 0, 0);
        lastCall("row()", probe -> probe.row(), 5, 5);
        lastCall("column()", probe -> probe.column(), 7, 9);
        lastCall("waits()", probe -> probe.waits(), false, false);
        lastCall("pen()", probe -> probe.pen(), 0, 0);
        lastCall("region()", probe -> probe.region(), 50, 50);
        lastCall("modes()", probe -> probe.modes(), 2, 2);
        lastCall("sequence()", probe -> probe.sequence(), 0, 0);
        lastCall("keptRows()", probe -> probe.keptRows(), 8, 8);
        lastCall("kept(0, 0)", probe -> probe.kept(0, 0), nthSign(12 * 36), nthSign(12 * 121));
        lastCall("kept(7, 11)", probe -> probe.kept(7, 11), nthSign(12 * 29 + 11), nthSign(12 * 114 + 11));
        lastCall("kept(8, 0)", probe -> probe.kept(8, 0), TerminalStack.BAD, TerminalStack.BAD);
        lastCall("refresh()", probe -> probe.refresh(), 67, 69);
        lastCall("shown(0, 0)", probe -> probe.shown(0, 0), 32, 32);
        lastCall("stale()", probe -> probe.stale(), 67, 69);
    }

    private static void longSequence(String sequence, String rest, String cursor, int pen) {
        Probe probe = new Probe().threes("\u001b[" + sequence);
        Check.due("sequence() in a long one", probe.sequence(), 2);
        probe.threes(rest);
        String what = "after a sequence of " + sequence.length() + " bytes and " + rest;
        Check.due("cursor " + what, probe.cursor(), cursor);
        Check.due("pen " + what, probe.pen(), pen);
    }

    /** No run of calls can write a number, or numbers, too long to be counted. */
    private static void theLongestSequences() {
        longSequence("0".repeat(1500), "5G", "0,4", 0);
        longSequence("9".repeat(1500), "G", "0,11", 0);
        longSequence("1" + "0".repeat(1500), "d", "5,0", 0);
        longSequence("1;4;7;2" + ";".repeat(1480), "m", "0,0", 7);
        longSequence("1;4;7;2" + ";0".repeat(740), "m", "0,0", 7);
        longSequence("3;4" + ";99".repeat(490), "H", "2,3", 0);
        longSequence(";".repeat(1500), "1C", "0,1", 0);
    }

    /** Behind the 512th call the answers are free, but none may throw (LANGUAGE.md, rule 7). */
    private static void manyCallsMore() {
        TerminalStack stack = new TerminalStack();
        int sum = 0;
        for (int call = 0; call < 300000; call++) {
            stack.feed(call % 128);
            stack.feedThree(call * 7 % 2097152);
            int place = call % 20 - 4;
            sum += stack.sign(place, place) + stack.kept(place, place) + stack.shown(place, place) + stack.refresh();
        }
        Check.due("all calls came back, with answers that add up to " + sum, true, true);
    }

    public static void main(String[] args) {
        everyCallAsTheLast();
        theLongestSequences();
        manyCallsMore();
        Check.end();
    }
}
