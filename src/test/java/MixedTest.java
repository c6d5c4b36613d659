/**
 * Long mixed runs, the same each time, on the program and on the model: the answers to every call
 * and, at the end of the run, everything that can be asked (promises 2 to 18; LANGUAGE.md, rule 7).
 */
public final class MixedTest {
    private static final int RUNS = 12000;
    private static final int MOST_CALLS = 180;
    private static final String LAST = "ABCDGdHJKXP@LMSTrmhl";
    private static final String[] NUMBERS = {"", "", "0", "1", "2", "3", "4", "5", "6", "7", "8", "11", "12", "13", "22", "24", "27", "99", "100"};
    private static final String CONTROLS = "\b\t\n\n\r\u0000\u0007\u007f";
    private static long state = 1;

    /** A number 0 .. bound - 1 from a plain linear rule, so that every run is alike. */
    private static int next(int bound) {
        state = state * 6364136223846793005L + 1442695040888963407L;
        return (int) ((state >>> 33) % bound);
    }

    private static char oneOf(String text) {
        return text.charAt(next(text.length()));
    }

    private static String numbers() {
        StringBuilder text = new StringBuilder(NUMBERS[next(NUMBERS.length)]);
        for (int i = next(6) - 1; i > 0; i--) {
            text.append(';').append(NUMBERS[next(NUMBERS.length)]);
        }
        return text.toString();
    }

    /** Signs, bytes that move, whole sequences, and now and then a byte or a piece that fits nowhere. */
    private static String piece() {
        switch (next(10)) {
            case 0: case 1: return "abcdefghijklmnopqrstuvwxyz".substring(next(20)).substring(0, next(6));
            case 2: return "0123456789AB";
            case 3: return "" + oneOf(CONTROLS);
            case 4: return "\u001b" + (next(12) == 0 ? 'c' : oneOf("78DEM"));
            case 5: return "\u001b[?" + (next(4) == 0 ? numbers() : next(2) == 0 ? "7" : "49") + oneOf("hl");
            case 6: return "\u001b[" + oneOf("4444456") + oneOf("hl");
            case 7: return next(3) != 0 ? "" : "\u001b[" + numbers() + (char) next(128);
            case 8: return next(3) != 0 ? "" : "" + (char) next(128) + (char) next(128);
            default: return "\u001b[" + numbers() + oneOf(LAST);
        }
    }

    private static String stream(int length) {
        StringBuilder text = new StringBuilder();
        while (text.length() < length) {
            text.append(piece());
        }
        return text.toString();
    }

    /** A call out of its range, or a question; both must answer alike. */
    private static void ask(Probe probe, Model model) {
        int row = next(8) - 1;
        int column = next(14) - 1;
        int i = next(11) - 1;
        switch (next(8)) {
            case 0: Check.due("feed", probe.feed(128 + row), model.feed(128 + row)); break;
            case 1: Check.due("feedThree", probe.feedThree(-1 - i), model.feedThree(-1 - i)); break;
            case 2: Check.due("refresh", probe.refresh(), model.refresh()); break;
            case 3: Check.due("sign", probe.sign(row, column), model.sign(row, column)); break;
            case 4: Check.due("style", probe.style(row, column), model.style(row, column)); break;
            case 5: Check.due("shown", probe.shown(row, column), model.shown(row, column)); break;
            case 6: Check.due("kept", probe.kept(i, column), model.kept(i, column)); break;
            default: Check.due("stale", probe.stale(), model.stale()); break;
        }
    }

    private static void run(int number) {
        Probe probe = new Probe();
        Model model = new Model();
        int calls = 1 + next(MOST_CALLS);
        String text = stream(3 * calls);
        int at = 0;
        for (int call = 0; call < calls; call++) {
            int kind = next(12);
            if (kind == 0) {
                ask(probe, model);
            } else if (kind < 6) {
                int bytes = text.charAt(at) + 128 * text.charAt(at + 1) + 16384 * text.charAt(at + 2);
                Check.due("feedThree", probe.feedThree(bytes), model.feedThree(bytes));
                at += 3;
            } else {
                Check.due("feed", probe.feed(text.charAt(at)), model.feed(text.charAt(at)));
                at++;
            }
        }
        String fed = text.substring(0, at).replace("\u001b", " 27 ");
        Check.due("run " + number + ", fed with " + fed, probe.picture(), model.picture());
    }

    public static void main(String[] args) {
        for (int i = 0; i < RUNS; i++) {
            run(i);
        }
        Check.end();
    }
}
