/** Promises 15 to 17: the copy that is brought up to date from time to time, from no cell that differs to all 72. */
public final class ShownTest {
    private static void countsAndCopies() {
        Probe probe = new Probe().csi("1;7m").type("ab");
        Check.due("stale", probe.stale(), 2);
        Check.due("stale changes nothing", probe.stale(), 2);
        Check.due("shown before refresh", probe.shown(0, 0), 32);
        Check.due("refresh", probe.refresh(), 2);
        Check.due("shown after refresh", probe.shown(0, 0), 'a' + 128 * 5);
        Check.due("shown(0, 1)", probe.shown(0, 1), 'b' + 128 * 5);
        Check.due("shown(0, 2)", probe.shown(0, 2), 32);
        Check.due("stale after refresh", probe.stale(), 0);
        Check.due("refresh again", probe.refresh(), 0);
    }

    /** 'something else than what is shown': sign or style or both, and not what has become as it was. */
    private static void whatDiffers() {
        Probe probe = new Probe().csi("1m").type("a");
        probe.refresh();
        Check.due("the same again", probe.csi("H").type("a").stale(), 0);
        Check.due("another sign", probe.csi("H").type("b").stale(), 1);
        Check.due("back", probe.csi("H").type("a").stale(), 0);
        Check.due("another style", probe.csi("H").csi("4m").type("a").stale(), 1);
        Check.due("shown has the old style", probe.shown(0, 0), 'a' + 128);
        Check.due("refresh", probe.refresh(), 1);
        Check.due("shown has the new style", probe.shown(0, 0), 'a' + 128 * 3);
        Check.due("sign and style", probe.csi("H").csi("m").type("c").stale(), 1);
        Check.due("refresh of both", probe.refresh(), 1);
        Check.due("emptied", probe.csi("2J").stale(), 1);
        Check.due("refresh of an empty cell", probe.refresh(), 1);
        Check.due("shown", probe.shown(0, 0), 32);
    }

    private static void blankWithStyle() {
        Probe probe = new Probe().type(" ");
        Check.due("a blank with style 0 is empty", probe.stale(), 0);
        probe.csi("4m").type(" ");
        Check.due("a blank with a style is not", probe.refresh(), 1);
        Check.due("shown(0, 1)", probe.shown(0, 1), 32 + 128 * 2);
        probe.csi("2J");
        Check.due("emptied", probe.refresh(), 1);
    }

    /** Each cell counts, the first and the last too, and is shown in its own place. */
    private static void eachCell() {
        for (int row = 0; row < 6; row++) {
            for (int column = 0; column < 12; column++) {
                Probe probe = new Probe().csi((row + 1) + ";" + (column + 1) + "H").csi("1;4;7m").type("~");
                String place = "(" + row + ", " + column + ")";
                Check.due("stale, " + place, probe.stale(), 1);
                Check.due("shown before, " + place, probe.shown(row, column), 32);
                Check.due("refresh, " + place, probe.refresh(), 1);
                Check.due("the greatest that is shown, " + place, probe.shown(row, column), 1022);
                Check.due("stale after, " + place, probe.stale(), 0);
                for (int at = 0; at < 72; at++) {
                    Check.due("shown " + at + ", " + place, probe.shown(at / 12, at % 12), at == 12 * row + column ? 1022 : 32);
                }
            }
        }
    }

    private static void upToAllCells() {
        Probe probe = new Probe();
        for (int i = 0; i < 72; i++) {
            Check.due("stale after " + i + " signs", probe.stale(), i);
            probe.type("x");
        }
        Check.due("all stale", probe.stale(), 72);
        Check.due("all refreshed", probe.refresh(), 72);
        Check.due("none stale", probe.stale(), 0);
        Check.due("none refreshed", probe.refresh(), 0);
        Check.due("a scroll of rows that are alike", probe.csi("S").stale(), 12);
    }

    /** What is shown changes by refresh alone. */
    private static void onlyByRefresh() {
        Probe probe = Full.screen("1;6", 0, 0);
        Check.due("refresh", probe.refresh(), 72);
        String[] changes = {"\u001b[2J", "\u001b[S", "\u001b[T", "\u001b[?49h", "x", "\u001b[?49l", "\u001bc", "\u001bM", "y"};
        for (String change : changes) {
            probe.type(change);
            Check.due("shown(0, 0)", probe.shown(0, 0), 'a' + 128);
            Check.due("shown(3, 7)", probe.shown(3, 7), 't' + 128 * 4);
            Check.due("shown(5, 11)", probe.shown(5, 11), '-' + 128 * 6);
        }
    }

    private static void otherIsShown() {
        Probe probe = Full.screen("1;6", 0, 0);
        probe.refresh();
        Check.due("OTHER is stale", probe.csi("?49h").stale(), 72);
        Check.due("OTHER is shown", probe.type("a").refresh(), 72);
        Check.due("shown(0, 0) in OTHER", probe.shown(0, 0), 'a' + 128 * 6);
        Check.due("back from OTHER", probe.csi("?49l").stale(), 72);
        Check.due("shown again", probe.refresh(), 72);
        Check.due("shown(0, 0)", probe.shown(0, 0), 'a' + 128);
    }

    /** The cursor, the pen, the region and the modes are no part of it, and refresh changes none of them. */
    private static void cellsAlone() {
        Probe probe = new Probe().threes(Twins.BUSY);
        Check.due("refresh: five full rows and two signs", probe.refresh(), 62);
        Check.due("cursor after refresh", probe.cursor(), "3,11W");
        Check.due("pen after refresh", probe.pen(), 3);
        Check.due("region after refresh", probe.region(), 41);
        Check.due("modes after refresh", probe.modes(), 3);
        Check.due("rows kept after refresh", probe.keptRows(), 2);
        probe.csi("3;3H").csi("7m").csi("1;5r").csi("4l").csi("?7l");
        Check.due("stale after moves and modes", probe.stale(), 0);
        probe.csi("3");
        probe.refresh();
        Check.due("refresh in a sequence", probe.sequence(), 2);
        Check.due("the sequence goes on", probe.type("C").cursor(), "0,3");
    }

    public static void main(String[] args) {
        countsAndCopies();
        whatDiffers();
        blankWithStyle();
        eachCell();
        upToAllCells();
        onlyByRefresh();
        otherIsShown();
        cellsAlone();
        Check.end();
    }
}
