/** Promises 4 and 5: the sequences that empty, take out and put in cells of a row or of the screen. */
public final class EraseTest {
    /** Every cell of row 0 gets a letter and style 1, those of row 1 a capital and style 2, 3 digits in row 2. */
    private static Probe filled() {
        return new Probe().csi("1m").type("abcdefghijkl").csi("0;4m").type("ABCDEFGHIJKL").csi("7m").type("012");
    }

    private static void after(String where, String sequence, String[] signs, String[] styles) {
        Probe probe = filled();
        probe.csi(where + "H").csi(sequence);
        for (int row = 0; row < signs.length; row++) {
            String what = sequence + " at " + where + ", row " + row;
            Check.due(what + ", signs", probe.line(row), signs[row]);
            Check.due(what + ", styles", probe.styles(row), styles[row]);
        }
        Check.due("pen after " + sequence, probe.ask().pen(), 6);
        String[] place = where.split(";");
        int row = Integer.parseInt(place[0]) - 1;
        int column = Integer.parseInt(place[1]) - 1;
        Check.due("cursor after " + sequence, probe.cursor(), row + "," + column);
    }

    private static void inRowOne(String where, String sequence, String signs, String styles) {
        after(where, sequence,
            new String[] {"abcdefghijkl", signs, "012........."},
            new String[] {"111111111111", styles, "666000000000"});
    }

    private static void screen() {
        after("2;4", "J", new String[] {"abcdefghijkl", "ABC.........", "............"},
            new String[] {"111111111111", "222000000000", "000000000000"});
        after("2;4", "0J", new String[] {"abcdefghijkl", "ABC.........", "............"},
            new String[] {"111111111111", "222000000000", "000000000000"});
        after("2;4", "1J", new String[] {"............", "....EFGHIJKL", "012........."},
            new String[] {"000000000000", "000022222222", "666000000000"});
        after("2;4", "2J", new String[] {"............", "............", "............"},
            new String[] {"000000000000", "000000000000", "000000000000"});
        inRowOne("2;4", "3J", "ABCDEFGHIJKL", "222222222222");
        inRowOne("2;4", "99J", "ABCDEFGHIJKL", "222222222222");
        inRowOne("2;4", "3;2J", "ABCDEFGHIJKL", "222222222222");
    }

    private static void corners() {
        Probe probe = new Probe();
        probe.fillRows().csi("6;12H").type("z").csi("J");
        Check.due("0J in the last cell", probe.line(5), "f...........");
        Check.due("0J in the last cell, other rows", probe.firstSigns(), "abcdef");
        probe.csi("H").csi("1J");
        Check.due("1J in the first cell", probe.firstSigns(), ".bcdef");
        probe.csi("6;12H").csi("1J");
        Check.due("1J in the last cell", probe.firstSigns(), "......");
    }

    private static void row() {
        inRowOne("2;4", "K", "ABC.........", "222000000000");
        inRowOne("2;4", "0K", "ABC.........", "222000000000");
        inRowOne("2;4", "1K", "....EFGHIJKL", "000022222222");
        inRowOne("2;4", "2K", "............", "000000000000");
        inRowOne("2;4", "3K", "ABCDEFGHIJKL", "222222222222");
        inRowOne("2;12", "K", "ABCDEFGHIJK.", "222222222220");
        inRowOne("2;1", "1K", ".BCDEFGHIJKL", "022222222222");
    }

    private static void someCells() {
        inRowOne("2;4", "X", "ABC.EFGHIJKL", "222022222222");
        inRowOne("2;4", "0X", "ABC.EFGHIJKL", "222022222222");
        inRowOne("2;4", "3X", "ABC...GHIJKL", "222000222222");
        inRowOne("2;4", "9X", "ABC.........", "222000000000");
        inRowOne("2;4", "99X", "ABC.........", "222000000000");
        inRowOne("2;12", "2X", "ABCDEFGHIJK.", "222222222220");
    }

    private static void takeOut() {
        inRowOne("2;4", "P", "ABCEFGHIJKL.", "222222222220");
        inRowOne("2;4", "0P", "ABCEFGHIJKL.", "222222222220");
        inRowOne("2;4", "3P", "ABCGHIJKL...", "222222222000");
        inRowOne("2;4", "8P", "ABCL........", "222200000000");
        inRowOne("2;4", "9P", "ABC.........", "222000000000");
        inRowOne("2;4", "99P", "ABC.........", "222000000000");
        inRowOne("2;12", "P", "ABCDEFGHIJK.", "222222222220");
    }

    private static void putIn() {
        inRowOne("2;4", "@", "ABC.DEFGHIJK", "222022222222");
        inRowOne("2;4", "0@", "ABC.DEFGHIJK", "222022222222");
        inRowOne("2;4", "3@", "ABC...DEFGHI", "222000222222");
        inRowOne("2;4", "8@", "ABC........D", "222000000002");
        inRowOne("2;4", "9@", "ABC.........", "222000000000");
        inRowOne("2;4", "99@", "ABC.........", "222000000000");
        inRowOne("2;12", "@", "ABCDEFGHIJK.", "222222222220");
    }

    public static void main(String[] args) {
        screen();
        corners();
        row();
        someCells();
        takeOut();
        putIn();
        Check.end();
    }
}
