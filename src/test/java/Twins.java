import java.util.function.Consumer;

/** Two objects with the same past: what one of them is told more must leave it like the other. */
final class Twins {
    /** Seven full rows and one begun: two rows are kept off the screen. */
    private static final String FULL = Full.bytes() + "\u001b[1m<=>?@[]^_`{|\u001b[myz";

    /** Nothing is as at first: cursor and pen kept, region, INSERT, WAITS in column 11. */
    static final String BUSY = FULL + "\u001b[3;4H\u001b[7m\u001b7\u001b[2;5r\u001b[4h\u001b[4;12H\u001b[0;1;4mw";

    /** The same with OTHER on, and something in it. */
    static final String BUSY_OTHER = BUSY + "\u001b[?49hpqr\u001b[3;4r\u001b[5;12Hs";

    /** What both are told at last brings to light what no answer tells: what is kept, put aside or half read. */
    private static final String[] LATER = {"", "z", "8", "9l", "2;3H", "\u001b8", "\u001b[?49l", "\u001b[?49h\u001b[?49l"};

    private Twins() {
    }

    private static Probe withPast(String past) {
        Probe probe = new Probe().threes("old");
        probe.refresh();
        return probe.threes(past);
    }

    static void alike(String what, String past, Consumer<Probe> more) {
        for (String later : LATER) {
            Probe told = withPast(past);
            Probe untold = withPast(past);
            more.accept(told);
            told.type(later);
            untold.type(later);
            String heading = what + " after " + shorten(past) + ", then " + shorten(later);
            Check.due(heading, told.picture(), untold.picture());
        }
    }

    /** The same, for what leaves an object as it is in every state that is worth a look. */
    static void alikeEverywhere(String what, Consumer<Probe> more) {
        alike(what, "", more);
        alike(what, BUSY, more);
        alike(what, BUSY_OTHER, more);
        alike(what, BUSY + "\u001b", more);
        alike(what, BUSY + "\u001b[", more);
        alike(what, BUSY_OTHER + "\u001b[?4", more);
        alike(what, BUSY + "\u001b[3;4", more);
    }

    /** The same, for bytes that do nothing at a place, written as for the last byte H, in the regions 1 .. 4 and, in OTHER, 2 .. 3. */
    static void alikeAt(String place, String... runs) {
        for (String bytes : runs) {
            String what = shorten(bytes) + " at " + place;
            alike(what, BUSY + "\u001b[" + place + "H", probe -> probe.type(bytes));
            alike(what, BUSY_OTHER + "\u001b[" + place + "H", probe -> probe.type(bytes));
        }
    }

    private static String shorten(String text) {
        String readable = text.replace("\u001b", "ESC ");
        return readable.length() <= 24 ? "'" + readable + "'" : "'.." + readable.substring(readable.length() - 24) + "'";
    }
}
