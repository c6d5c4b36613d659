/** Promise 1, and the answers of promises 4 to 17 on a new object and for places that are not there. */
public final class NewObjectTest {
    private static final int[] NO_ROW = {-1, 6, 7, 100, Integer.MIN_VALUE, Integer.MAX_VALUE};
    private static final int[] NO_COLUMN = {-1, 12, 13, 100, Integer.MIN_VALUE, Integer.MAX_VALUE};

    private static void allEmpty() {
        Probe signs = new Probe();
        Probe shown = new Probe();
        for (int row = 0; row < 6; row++) {
            Check.due("signs of row " + row, signs.line(row), "............");
            Check.due("styles of row " + row, signs.styles(row), "000000000000");
            for (int column = 0; column < 12; column++) {
                Check.due("shown(" + row + ", " + column + ")", shown.ask().shown(row, column), 32);
            }
        }
        Check.due("stale", shown.ask().stale(), 0);
        Check.due("refresh", shown.ask().refresh(), 0);
    }

    private static void firstState() {
        Probe probe = new Probe();
        Check.due("cursor", probe.cursor(), "0,0");
        Check.due("pen", probe.ask().pen(), 0);
        Check.due("region", probe.ask().region(), 50);
        Check.due("modes", probe.ask().modes(), 2);
        Check.due("sequence", probe.ask().sequence(), 0);
        Check.due("keptRows", probe.ask().keptRows(), 0);
        Check.due("kept(0, 0)", probe.ask().kept(0, 0), TerminalStack.BAD);
        probe.csi("3;4H").csi("7m").esc("8");
        Check.due("cursor kept at first", probe.cursor(), "0,0");
        Check.due("pen kept at first", probe.ask().pen(), 0);
    }

    private static void placesThatAreNotThere() {
        Probe probe = new Probe();
        for (int row : NO_ROW) {
            Check.due("sign(" + row + ", 0)", probe.ask().sign(row, 0), TerminalStack.BAD);
            Check.due("style(" + row + ", 0)", probe.ask().style(row, 0), TerminalStack.BAD);
            Check.due("shown(" + row + ", 0)", probe.ask().shown(row, 0), TerminalStack.BAD);
        }
        for (int column : NO_COLUMN) {
            Check.due("sign(0, " + column + ")", probe.ask().sign(0, column), TerminalStack.BAD);
            Check.due("style(5, " + column + ")", probe.ask().style(5, column), TerminalStack.BAD);
            Check.due("shown(0, " + column + ")", probe.ask().shown(0, column), TerminalStack.BAD);
        }
    }

    private static void objectsDoNotShare() {
        Probe one = new Probe();
        Probe two = new Probe();
        one.type("x");
        Check.due("the other object's row", two.line(0), "............");
        Check.due("the other object's cursor", two.cursor(), "0,0");
    }

    public static void main(String[] args) {
        allEmpty();
        firstState();
        placesThatAreNotThere();
        objectsDoNotShare();
        Check.end();
    }
}
