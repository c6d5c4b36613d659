/** Promises 15 to 17: the copy that is brought up to date from time to time. */
public final class ShownTest {
    private static void countsAndCopies() {
        Probe probe = new Probe();
        probe.csi("1;7m").type("ab");
        Check.due("stale", probe.ask().stale(), 2);
        Check.due("stale changes nothing", probe.ask().stale(), 2);
        Check.due("shown before refresh", probe.ask().shown(0, 0), 32);
        Check.due("refresh", probe.ask().refresh(), 2);
        Check.due("shown after refresh", probe.ask().shown(0, 0), 'a' + 128 * 5);
        Check.due("shown(0, 1)", probe.ask().shown(0, 1), 'b' + 128 * 5);
        Check.due("shown(0, 2)", probe.ask().shown(0, 2), 32);
        Check.due("stale after refresh", probe.ask().stale(), 0);
        Check.due("refresh again", probe.ask().refresh(), 0);
        probe.csi("H").type("ab");
        Check.due("the same again is not stale", probe.ask().stale(), 0);
        probe.csi("H").csi("m").type("ab");
        Check.due("another style alone", probe.ask().stale(), 2);
        Check.due("shown has the old style", probe.ask().shown(0, 1), 'b' + 128 * 5);
        Check.due("refresh of styles", probe.ask().refresh(), 2);
        Check.due("shown has the new style", probe.ask().shown(0, 1), (int) 'b');
    }

    private static void blankWithStyle() {
        Probe probe = new Probe();
        probe.type(" ");
        Check.due("a blank with style 0 is empty", probe.ask().stale(), 0);
        probe.csi("4m").type(" ");
        Check.due("a blank with a style is not", probe.ask().refresh(), 1);
        Check.due("shown(0, 1)", probe.ask().shown(0, 1), 32 + 128 * 2);
        probe.csi("2J");
        Check.due("emptied", probe.ask().refresh(), 1);
    }

    private static void wholeScreen() {
        Probe probe = new Probe();
        for (int i = 0; i < 24; i++) {
            Check.due("feedThree", probe.ask().feedThree('x' + 128 * 'y' + 16384 * 'z'), true);
        }
        Check.due("all stale", probe.ask().stale(), 72);
        Check.due("all refreshed", probe.ask().refresh(), 72);
        Check.due("the last cell", probe.ask().shown(5, 11), (int) 'z');
        probe.csi("?49h");
        Check.due("OTHER is stale", probe.ask().stale(), 72);
        probe.csi("?49l");
        Check.due("back from OTHER", probe.ask().stale(), 0);
        probe.csi("S");
        Check.due("one row scrolled off: the rows are alike", probe.ask().stale(), 12);
        Check.due("refresh", probe.ask().refresh(), 12);
        probe.esc("c");
        Check.due("27 c leaves what is shown", probe.ask().stale(), 60);
        Check.due("shown(0, 0)", probe.ask().shown(0, 0), (int) 'x');
        Check.due("refresh after 27 c", probe.ask().refresh(), 60);
        Check.due("shown(0, 0) after it", probe.ask().shown(0, 0), 32);
    }

    public static void main(String[] args) {
        countsAndCopies();
        blankWithStyle();
        wholeScreen();
        Check.end();
    }
}
