/** Promises 15 to 21: finds, the machine, rows that are walked, the row to be walked next. */
public final class FindsTest {
    public static void main(String[] args) {
        cases();
        others();
        whatIsKnown();
        minutes();
        machines();
        walks();
        nextRows();
        Check.finish("FindsTest");
    }

    private static void cases() {
        GrassField x = new GrassField();
        Check.refuses("cell 256", Check.INDEX, () -> x.found(256, 99, 0));
        Check.refuses("cell -1", Check.INDEX, () -> x.found(-1, 0, 1));
        Check.refuses("depth 10", Check.ARGUMENT, () -> x.found(0, 10, 1));
        Check.refuses("depth -1", Check.ARGUMENT, () -> x.found(0, -1, 1));
        Check.refuses("no marks", Check.ARGUMENT, () -> x.found(0, 0, 0));
        Check.refuses("mark 16", Check.ARGUMENT, () -> x.found(0, 0, 0x10001));
        Check.refuses("negative marks", Check.ARGUMENT, () -> x.found(0, 0, -1));
        for (int i = 0; i < 120; i++) {
            Check.is("case " + i, x.found(255, 9, 0xffff), i);
        }
        Check.refuses("a 121st", Check.FULL, () -> x.found(0, 0, 1));
        Check.refuses("a wrong 121st", Check.ARGUMENT, () -> x.found(0, 0, 0));
        Check.refuses("a 121st, of another kind", Check.FULL, () -> x.other(1, 0, 0, 1));
        Check.refuses("a wrong 121st, of another kind", Check.ARGUMENT, () -> x.other(0, 0, 0, 1));
        Check.is("finds", x.count(4), 120);
    }

    private static void others() {
        GrassField x = new GrassField();
        Check.refuses("cell 256", Check.INDEX, () -> x.other(9, 256, 0, 0));
        Check.refuses("kind 0", Check.ARGUMENT, () -> x.other(0, 0, 0, 1));
        Check.refuses("kind 4", Check.ARGUMENT, () -> x.other(4, 0, 0, 1));
        Check.refuses("kind -1", Check.ARGUMENT, () -> x.other(-1, 0, 0, 1));
        Check.refuses("depth 10", Check.ARGUMENT, () -> x.other(1, 0, 10, 1));
        Check.refuses("side 2", Check.ARGUMENT, () -> x.other(1, 0, 0, 2));
        Check.refuses("side -1", Check.ARGUMENT, () -> x.other(1, 0, 0, -1));
        Check.refuses("nobody's bones", Check.ARGUMENT, () -> x.other(2, 0, 0, 0));
        Check.refuses("bones of a 9th", Check.ARGUMENT, () -> x.other(2, 0, 0, 256));
        Check.refuses("year 1799", Check.ARGUMENT, () -> x.other(3, 0, 0, 1799));
        Check.refuses("year 2000", Check.ARGUMENT, () -> x.other(3, 0, 0, 2000));
        Check.is("a ball", x.other(1, 0, 0, 0), 0);
        Check.is("bones", x.other(2, 0, 9, 255), 1);
        Check.is("a later thing", x.other(3, 255, 0, 1800), 2);
        Check.is("a later thing", x.other(3, 255, 0, 1999), 3);
    }

    private static void whatIsKnown() {
        GrassField x = new GrassField();
        x.gun(0, 3, 1870, 0);
        x.gun(1, 4, 1870, 0);
        x.gun(0, 3, 1870, 0);
        x.found(17, 5, 8);
        x.other(2, 18, 6, 200);
        Check.is("not seen", x.about(0, 4), 0);
        x.walk(1);
        x.when(0, 7, 9);
        int[] ofCase = {0, 17, 5, 8, 1, 5, 7, 9};
        int[] ofBones = {2, 18, 6, 200, 1, 0, 0, 239};
        for (int what = 0; what < 8; what++) {
            Check.is("about(0, " + what + ")", x.about(0, what), ofCase[what]);
            Check.is("about(1, " + what + ")", x.about(1, what), ofBones[what]);
        }
        Check.refuses("about(0, 8)", Check.NO_SUCH, () -> x.about(0, 8));
        Check.refuses("about(0, -1)", Check.NO_SUCH, () -> x.about(0, -1));
        Check.refuses("about(2, 9)", Check.INDEX, () -> x.about(2, 9));
        Check.refuses("about(-1, 0)", Check.INDEX, () -> x.about(-1, 0));
        x.gun(1, 3, 1870, 0);
        Check.is("a gun that came later", x.about(0, 5), 13);
    }

    private static void minutes() {
        GrassField x = new GrassField();
        x.found(0, 0, 1);
        x.other(1, 0, 0, 1);
        Check.is("from", x.about(0, 6), 0);
        Check.is("till", x.about(0, 7), 239);
        x.when(0, 239, 239);
        Check.is("from", x.about(0, 6), 239);
        Check.refuses("no such find", Check.INDEX, () -> x.when(2, 5, 1));
        Check.refuses("no case", Check.ARGUMENT, () -> x.when(1, 0, 5));
        Check.refuses("till ahead of from", Check.ARGUMENT, () -> x.when(0, 5, 4));
        Check.refuses("from -1", Check.ARGUMENT, () -> x.when(0, -1, 4));
        Check.refuses("till 240", Check.ARGUMENT, () -> x.when(0, 1, 240));
        Check.is("from is left", x.about(0, 6), 239);
        x.when(0, 0, 0);
        Check.is("till", x.about(0, 7), 0);
    }

    private static void machines() {
        GrassField x = new GrassField();
        Check.refuses("depth 10", Check.ARGUMENT, () -> x.machine(10, 0));
        Check.refuses("depth -1", Check.ARGUMENT, () -> x.machine(-1, 0));
        Check.refuses("wide 4", Check.ARGUMENT, () -> x.machine(0, 4));
        Check.refuses("wide -1", Check.ARGUMENT, () -> x.machine(0, -1));
        for (int row = 0; row < 16; row++) {
            x.found(16 * row, row % 10, 1);
        }
        x.walk(8);
        Check.is("9 deep, 0 wide", x.count(5), 1);
        x.machine(9, 1);
        Check.is("1 wide: rows 7 to 9", x.count(5), 3);
        x.machine(9, 3);
        Check.is("3 wide: rows 5 to 11", x.count(5), 7);
        x.machine(5, 3);
        Check.is("5 deep: rows 5, 10, 11", x.count(5), 3);
        x.machine(0, 3);
        Check.is("0 deep: row 10", x.count(5), 1);
        x.machine(0, 0);
        Check.is("0 deep, 0 wide", x.count(5), 0);
        GrassField edge = new GrassField();
        edge.machine(9, 3);
        edge.found(255, 0, 1);
        edge.found(0, 0, 1);
        Check.is("row 0 is not near row 15", edge.walk(0), 1);
        Check.is("nor row 15 near row 0", edge.walk(15), 1);
    }

    private static void walks() {
        GrassField x = new GrassField();
        x.found(16, 0, 1);
        x.found(17, 9, 1);
        x.found(32, 0, 1);
        Check.refuses("row 16", Check.INDEX, () -> x.walk(16));
        Check.refuses("row -1", Check.INDEX, () -> x.walk(-1));
        Check.is("nothing is walked", x.count(10), 0);
        x.machine(9, 1);
        Check.is("walk(0)", x.walk(0), 2);
        Check.is("walk(1)", x.walk(1), 1);
        Check.is("walk(1) again", x.walk(1), 0);
        Check.is("two are walked", x.count(10), 2);
        Check.is("what comes later is seen at once", x.found(0, 0, 1), 3);
        Check.is("seen", x.count(5), 4);
        Check.is("row 15", x.walk(15), 0);
        Check.is("three are walked", x.count(10), 3);
    }

    private static void nextRows() {
        GrassField x = new GrassField();
        Check.is("nothing anywhere: the least row", x.next(), 0);
        x.found(80, 0, 1);
        Check.is("one find", x.next(), 5);
        x.found(112, 4, 1);
        Check.is("two rows: the least", x.next(), 5);
        x.machine(9, 1);
        Check.is("between both", x.next(), 6);
        x.machine(3, 1);
        Check.is("one lies too deep", x.next(), 4);
        x.machine(9, 1);
        x.walk(6);
        Check.is("what is seen does not count", x.next(), 0);
        x.found(144, 0, 1);
        Check.is("a row that sees one more", x.next(), 8);
        for (int row = 0; row < 16; row++) {
            x.walk(row);
        }
        Check.is("all are walked", x.next(), GrassField.NONE);
    }
}
