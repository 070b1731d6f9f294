/** Promises 22 to 29 and 36: what cases tell of guns. */
public final class CasesTest {
    public static void main(String[] args) {
        fewestGuns();
        sameGun();
        laterOnes();
        waysOfOneHand();
        waysOfMoreHands();
        waysTakeTheFirstEight();
        rows();
        heapsOfCases();
        lengths();
        mayLieStill();
        joinedPlaces();
        Check.finish("CasesTest");
    }

    /** Guns 0 to 7 with marks 0 to 7, of sides by turns, all rows walked. */
    private static GrassField walked() {
        GrassField x = new GrassField();
        for (int i = 0; i < 8; i++) {
            x.gun(i % 2, i, 1870 + i, 0);
        }
        for (int row = 0; row < 16; row++) {
            x.walk(row);
        }
        return x;
    }

    private static void fewestGuns() {
        GrassField x = walked();
        Check.is("nothing needs no gun", x.needed(0, 255), 0);
        x.found(0, 0, 0b0110);
        Check.is("the least bits", x.needed(0, 255), 0b0010);
        x.found(1, 0, 0b1100);
        Check.is("one for both", x.needed(0, 255), 0b0100);
        x.found(2, 0, 0b0001);
        Check.is("two", x.needed(0, 255), 0b0101);
        Check.is("an area", x.needed(1, 0), 0b0100);
        Check.is("a cell", x.needed(1, 1), 0b0100);
        x.found(40, 0, 0x8000);
        Check.is("one that is unknown needs none", x.needed(0, 255), 0b0101);
        x.found(255, 0, 0b11000000);
        x.found(254, 0, 0b01100000);
        x.found(253, 0, 0b10100000);
        Check.is("three in a ring need two", x.needed(253, 255), 0b01100000);
        Check.refuses("cell 256", Check.INDEX, () -> x.needed(0, 256));
        Check.refuses("cell -1", Check.INDEX, () -> x.needed(-1, 0));
        GrassField hidden = new GrassField();
        hidden.gun(0, 0, 1870, 0);
        hidden.found(0, 0, 1);
        Check.is("what is not seen needs none", hidden.needed(0, 255), 0);
    }

    private static void sameGun() {
        GrassField x = walked();
        x.found(0, 0, 0b0111);
        x.found(1, 0, 0b1110);
        x.found(2, 0, 0x8000);
        x.other(1, 3, 0, 0);
        Check.is("both have one", x.same(0, 1, 0), 2);
        Check.is("all ways", x.same(0, 1, 1), 9);
        Check.is("with itself", x.same(0, 0, 0), 3);
        Check.is("with itself, all", x.same(0, 0, 1), 9);
        Check.is("unknown", x.same(2, 0, 0), 0);
        Check.is("unknown, all", x.same(2, 0, 1), 0);
        Check.refuses("no case", Check.ARGUMENT, () -> x.same(0, 3, 7));
        Check.refuses("no case", Check.ARGUMENT, () -> x.same(3, 0, 0));
        Check.refuses("no find", Check.INDEX, () -> x.same(3, 4, 7));
        Check.refuses("no find", Check.INDEX, () -> x.same(-1, 3, 7));
        Check.refuses("what 2", Check.NO_SUCH, () -> x.same(0, 1, 2));
        Check.refuses("what -1", Check.NO_SUCH, () -> x.same(0, 1, -1));
        x.found(5, 4, 1);
        x.machine(3, 0);
        Check.refuses("not seen", Check.ARGUMENT, () -> x.same(0, 4, 0));
        Check.refuses("not seen", Check.ARGUMENT, () -> x.same(4, 0, 2));
    }

    private static void laterOnes() {
        GrassField x = walked();
        x.day(1873);
        x.found(0, 0, 1 << 4);
        x.found(0, 0, 1 << 3);
        x.found(0, 0, 1 << 3 | 1 << 4);
        x.found(0, 0, 1 << 5 | 1 << 4);
        x.found(0, 0, 1 << 15);
        x.other(3, 0, 0, 1873);
        x.other(3, 0, 0, 1874);
        x.other(3, 0, 5, 1999);
        x.other(1, 0, 0, 1);
        Check.is("later and modern", x.later(0), 4);
        Check.is("modern", x.later(1), 2);
        Check.is("unknown", x.later(2), 1);
        x.machine(4, 0);
        Check.is("only what is seen", x.later(0), 3);
        x.found(0, 0, 1);
        Check.is("gun 0 is not behind 1873", x.later(1), 2);
        x.day(1870);
        Check.is("gun 0 is of 1870", x.later(1), 4);
        x.day(1869);
        Check.is("all guns are behind 1869", x.later(1), 5);
        Check.is("and gun 0 is not unknown", x.later(2), 1);
        Check.refuses("what 3", Check.NO_SUCH, () -> x.later(3));
        Check.refuses("what -1", Check.NO_SUCH, () -> x.later(-1));
    }

    private static void shot(GrassField x, int cell, int from, int till) {
        int number = x.found(cell, 0, 1);
        x.when(number, from, till);
    }

    private static void way(String what, GrassField x, int hands, int end, int first) {
        Check.is(what + ": hands", x.way(0, 0), hands);
        Check.is(what + ": end", x.way(0, 1), end);
        Check.is(what + ": first", x.way(0, 2), first);
    }

    private static void waysOfOneHand() {
        GrassField x = walked();
        way("no case", x, 0, -1, -1);
        shot(x, 10, 3, 9);
        way("one case", x, 1, 3, 0);
        shot(x, 10, 3, 3);
        way("two in one cell and minute", x, 1, 3, 0);
        GrassField far = walked();
        shot(far, 10, 5, 239);
        shot(far, 0, 0, 239);
        way("it goes while it would wait", far, 1, 10, 1);
        GrassField hill = walked();
        hill.ground(0, 0, 1);
        shot(hill, 0, 0, 239);
        shot(hill, 5, 0, 239);
        way("down the hill", hill, 1, 5, 0);
        hill.when(0, 0, 5);
        hill.when(1, 0, 4);
        way("up the hill it comes too late", hill, 2, -1, -1);
        hill.when(0, 0, 6);
        way("up the hill", hill, 1, 6, 1);
        GrassField wait = walked();
        shot(wait, 2, 0, 239);
        shot(wait, 3, 0, 239);
        shot(wait, 4, 100, 239);
        way("a wait hides the order", wait, 1, 100, 0);
        GrassField late = walked();
        late.found(0, 0, 1 << 1);
        shot(late, 4, 9, 239);
        shot(late, 3, 0, 239);
        way("numbers are those of finds", late, 1, 9, 2);
        Check.refuses("gun 8", Check.INDEX, () -> x.way(8, 9));
        Check.refuses("gun -1", Check.INDEX, () -> x.way(-1, 0));
        Check.refuses("what 3", Check.NO_SUCH, () -> x.way(0, 3));
        Check.refuses("what -1", Check.NO_SUCH, () -> x.way(0, -1));
    }

    private static void waysOfMoreHands() {
        GrassField x = walked();
        shot(x, 0, 0, 0);
        shot(x, 15, 0, 0);
        shot(x, 240, 0, 0);
        way("three at once", x, 3, -1, -1);
        shot(x, 1, 1, 1);
        shot(x, 14, 1, 1);
        shot(x, 241, 2, 2);
        way("three who go on", x, 3, -1, -1);
        shot(x, 255, 0, 14);
        way("a fourth", x, 4, -1, -1);
        GrassField y = walked();
        shot(y, 0, 0, 239);
        y.found(100, 0, 3);
        way("one that is not sure is none of them", y, 1, 0, 0);
        y.found(9, 9, 1);
        y.machine(8, 0);
        way("nor one that is not seen", y, 1, 0, 0);
    }

    private static void waysTakeTheFirstEight() {
        GrassField x = walked();
        for (int i = 0; i < 8; i++) {
            shot(x, i, 0, 239);
        }
        shot(x, 255, 0, 0);
        way("eight", x, 1, 7, 0);
        GrassField apart = walked();
        for (int i = 0; i < 8; i++) {
            shot(apart, 2 * i, 0, 0);
        }
        way("eight hands", apart, 8, -1, -1);
    }

    private static void cases(GrassField x, int row, int mark, int... columns) {
        for (int column : columns) {
            x.found(16 * row + column, 0, 1 << mark);
        }
    }

    private static void rows() {
        GrassField x = walked();
        cases(x, 2, 0, 0, 2, 4, 7, 9, 15, 4);
        cases(x, 2, 1, 1, 3);
        x.found(16 * 2 + 5, 0, 0b101);
        Check.is("steps 2 2 3 2 6: alike", x.held(0, 2, 0, false), 2);
        Check.is("off by 1", x.held(0, 2, 1, false), 4);
        Check.is("off by 3", x.held(0, 2, 3, false), 4);
        Check.is("off by 4", x.held(0, 2, 4, false), 5);
        Check.is("off by 15", x.held(0, 2, 15, false), 5);
        Check.is("broke by more than 0", x.held(0, 2, 0, true), 4);
        Check.is("broke by more than 1", x.held(0, 2, 1, true), 9);
        Check.is("broke by more than 3", x.held(0, 2, 3, true), 9);
        Check.is("did not break", x.held(0, 2, 4, true), GrassField.NONE);
        Check.is("the other side", x.held(1, 2, 0, false), 1);
        Check.is("the other side", x.held(1, 2, 0, true), GrassField.NONE);
        Check.is("a row without", x.held(0, 3, 0, false), 0);
        cases(x, 3, 2, 8);
        Check.is("a row with one", x.held(0, 3, 15, false), 0);
        Check.is("a row with one", x.held(0, 3, 0, true), GrassField.NONE);
        cases(x, 3, 4, 9, 11);
        Check.is("guns of one side together", x.held(0, 3, 1, false), 2);
        Check.is("step 2 behind 1", x.held(0, 3, 0, true), 9);
        Check.refuses("side 2", Check.INDEX, () -> x.held(2, 0, 99, false));
        Check.refuses("side -1", Check.INDEX, () -> x.held(-1, 0, 0, true));
        Check.refuses("row 16", Check.INDEX, () -> x.held(0, 16, -1, false));
        Check.refuses("row -1", Check.INDEX, () -> x.held(0, -1, 0, false));
        Check.refuses("off 16", Check.ARGUMENT, () -> x.held(0, 0, 16, false));
        Check.refuses("off -1", Check.ARGUMENT, () -> x.held(0, 0, -1, true));
    }

    private static void heapsOfCases() {
        GrassField x = walked();
        cases(x, 5, 0, 3, 3, 3, 9, 9);
        cases(x, 4, 15, 12, 12);
        x.other(1, 16 * 5 + 3, 0, 1);
        Check.is("one or more", x.heaps(1, false), 3);
        Check.is("two or more", x.heaps(2, false), 3);
        Check.is("three or more", x.heaps(3, false), 1);
        Check.is("four or more: a ball is no case", x.heaps(4, false), 0);
        Check.is("the first", x.heaps(2, true), 76);
        Check.is("the first", x.heaps(3, true), 83);
        Check.is("none", x.heaps(99, true), GrassField.NONE);
        Check.refuses("0", Check.ARGUMENT, () -> x.heaps(0, true));
        Check.refuses("100", Check.ARGUMENT, () -> x.heaps(100, false));
        GrassField hidden = new GrassField();
        hidden.found(0, 0, 1);
        Check.is("not seen", hidden.heaps(1, false), 0);
        GrassField balls = walked();
        balls.other(1, 0, 0, 1);
        balls.found(3, 0, 1);
        Check.is("a ball is no heap", balls.heaps(1, true), 3);
        balls.found(0, 0, 1);
        Check.is("the first cell of all", balls.heaps(1, true), 0);
        Check.is("unknown first", unknownFirst().later(2), 1);
    }

    private static GrassField unknownFirst() {
        GrassField x = walked();
        x.found(0, 0, 1 << 15);
        return x;
    }

    private static void lengths() {
        GrassField x = walked();
        Check.is("no case", x.length(0, 1, 1, true), 0);
        for (int i = 0; i < 10; i++) {
            x.found(i, 0, 1);
        }
        for (int i = 0; i < 13; i++) {
            x.found(i, 0, 2);
        }
        x.found(0, 0, 4);
        x.found(0, 0, 5);
        Check.is("at least", x.length(0, 2, 3, false), 4);
        Check.is("at most", x.length(0, 2, 3, true), 5);
        Check.is("one number", x.length(0, 9, 9, true), 2);
        Check.is("one number", x.length(0, 1, 1, false), 10);
        Check.is("the other side", x.length(1, 1, 4, false), 4);
        Check.refuses("side 2", Check.INDEX, () -> x.length(2, 0, 0, true));
        Check.refuses("side -1", Check.INDEX, () -> x.length(-1, 1, 1, true));
        Check.refuses("least 0", Check.ARGUMENT, () -> x.length(0, 0, 1, true));
        Check.refuses("greatest 10", Check.ARGUMENT, () -> x.length(0, 1, 10, false));
        Check.refuses("least above greatest", Check.ARGUMENT, () -> x.length(0, 3, 2, false));
        Check.is("no gun", new GrassField().length(1, 1, 1, true), 0);
    }

    private static void mayLieStill() {
        GrassField x = new GrassField();
        Check.is("nothing is seen", x.still(0, 255), 0);
        x.found(0, 0, 1);
        x.other(1, 0, 0, 1);
        x.other(2, 0, 5, 1);
        x.other(3, 1, 0, 1900);
        Check.is("nothing is seen", x.still(0, 255), 0);
        x.walk(0);
        Check.is("three in one cell", x.still(0, 255), 3 * 240);
        Check.is("a row that was walked", x.still(0, 15), 0);
        Check.is("a part", x.still(19, 2), 6);
        x.machine(4, 2);
        Check.is("two in one cell, three rows", x.still(0, 255), 2 * 208);
        Check.is("a far corner", x.still(255, 255), 2);
        Check.refuses("cell 256", Check.INDEX, () -> x.still(256, 0));
        Check.refuses("cell -1", Check.INDEX, () -> x.still(0, -1));
    }

    private static void joinedPlaces() {
        GrassField x = walked();
        x.found(0, 0, 1);
        x.found(1, 0, 2);
        x.found(17, 0, 6);
        x.found(254, 0, 2);
        x.found(255, 0, 5);
        Check.is("sure", x.joined(0, 17, 238, 255, false), 2);
        Check.is("may", x.joined(0, 17, 238, 255, true), 7);
        Check.is("may", x.joined(17, 17, 255, 255, true), 4);
        Check.is("not sure", x.joined(17, 17, 255, 255, false), 0);
        Check.is("areas that meet", x.joined(0, 1, 1, 0, false), 3);
        Check.is("corners the other way", x.joined(17, 0, 255, 238, true), 7);
        Check.refuses("a", Check.INDEX, () -> x.joined(-1, 0, 0, 0, true));
        Check.refuses("b", Check.INDEX, () -> x.joined(0, 256, 0, 0, true));
        Check.refuses("c", Check.INDEX, () -> x.joined(0, 0, 256, 0, false));
        Check.refuses("d", Check.INDEX, () -> x.joined(0, 0, 0, -1, false));
    }
}
