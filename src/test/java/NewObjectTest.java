/** Promise 1, and the answers of promises 4 to 17 on a new object. */
public final class NewObjectTest {
    /** 'As said: all empty, and nothing shown but empty cells.' */
    private static void allEmpty() {
        Probe signs = new Probe();
        Probe shown = new Probe();
        for (int row = 0; row < 6; row++) {
            Check.due("signs of row " + row, signs.line(row), "............");
            Check.due("styles of row " + row, signs.styles(row), "000000000000");
            for (int column = 0; column < 12; column++) {
                Check.due("shown(" + row + ", " + column + ")", shown.shown(row, column), 32);
            }
        }
        Check.due("stale", shown.stale(), 0);
        Check.due("refresh", shown.refresh(), 0);
    }

    private static void firstState() {
        Probe probe = new Probe();
        Check.due("cursor and WAITS", probe.cursor(), "0,0");
        Check.due("pen", probe.pen(), 0);
        Check.due("region", probe.region(), 50);
        Check.due("INSERT off, WRAP on, OTHER off", probe.modes(), 2);
        Check.due("sequence", probe.sequence(), 0);
        Check.due("keptRows", probe.keptRows(), 0);
        Check.due("kept(0, 0)", probe.kept(0, 0), TerminalStack.BAD);
        probe.csi("3;4H").csi("7m").esc("8");
        Check.due("cursor kept at first", probe.cursor(), "0,0");
        Check.due("pen kept at first", probe.pen(), 0);
    }

    private static void objectsDoNotShare() {
        Probe one = new Probe();
        Probe two = new Probe();
        String fresh = new Probe().picture();
        one.threes(Twins.BUSY_OTHER).csi("3");
        one.refresh();
        Check.due("the other object", two.picture(), fresh);
        Check.due("one made later", new Probe().picture(), fresh);
    }

    public static void main(String[] args) {
        allEmpty();
        firstState();
        objectsDoNotShare();
        Check.end();
    }
}
