/** The boundaries of promises 30 to 36: tellers and what they told, bones, and two places that guns join. */
public final class Promise30To36Test {
    private static final int LEAST = Integer.MIN_VALUE;
    private static final int GREATEST = Integer.MAX_VALUE;

    public static void main(String[] args) {
        Check.runPromises(Promise30To36Test.class);
    }

    private static GrassField allWalked() {
        GrassField x = new GrassField();
        for (int row = 0; row < 16; row++) {
            x.walk(row);
        }
        return x;
    }

    // ---- 30: teller

    /** Whether one who was in a cell in these minutes could see that cell in a minute. */
    private static boolean wasThere(int cell, int from, int till, int minute) {
        GrassField x = new GrassField();
        x.teller(cell, from, till, 0);
        x.tells(0, cell, minute);
        return x.could(0, false);
    }

    private static void promise30CellsGoFrom0To255() {
        Check.yes("cell 0", wasThere(0, 0, 0, 0));
        Check.yes("cell 255", wasThere(255, 0, 0, 0));
        for (int wrong : new int[] {-1, 256, LEAST, GREATEST}) {
            Check.leaves("cell " + wrong, Check.INDEX, x -> x.teller(wrong, 0, 9, 0));
        }
    }

    private static void promise30MinutesGoFrom0To239() {
        Check.yes("0 to 0", wasThere(5, 0, 0, 0));
        Check.yes("239 to 239", wasThere(5, 239, 239, 239));
        Check.yes("0 to 239, in 0", wasThere(5, 0, 239, 0));
        Check.yes("0 to 239, in 239", wasThere(5, 0, 239, 239));
        int[][] wrong = {{-1, 0}, {-1, -1}, {0, -1}, {0, 240}, {240, 240}, {LEAST, 9}, {0, GREATEST}, {GREATEST, LEAST}};
        for (int[] minutes : wrong) {
            Check.leaves("teller(0, " + minutes[0] + ", " + minutes[1] + ", 0)", Check.ARGUMENT,
                x -> x.teller(0, minutes[0], minutes[1], 0));
        }
    }

    private static void promise30TillIsNotAheadOfFrom() {
        Check.yes("9 to 9", wasThere(5, 9, 9, 9));
        Check.leaves("9 to 8", Check.ARGUMENT, x -> x.teller(0, 9, 8, 0));
        Check.leaves("239 to 0", Check.ARGUMENT, x -> x.teller(0, 239, 0, 0));
    }

    private static void promise30ListenersGoFrom0To9() {
        for (int listener : new int[] {0, 9}) {
            GrassField x = new GrassField();
            x.teller(0, 0, 9, listener);
            x.teller(0, 0, 9, listener);
            x.teller(0, 0, 9, 9 - listener);
            for (int i = 0; i < 3; i++) {
                x.tells(i, 0, 0);
            }
            Check.yes("one listener " + listener, x.talked(0, 1));
            Check.no("another listener", x.talked(0, 2));
        }
        for (int wrong : new int[] {-1, 10, LEAST, GREATEST}) {
            Check.leaves("listener " + wrong, Check.ARGUMENT, x -> x.teller(0, 0, 9, wrong));
        }
    }

    private static void promise30NumbersGoFrom0To7() {
        GrassField x = new GrassField();
        for (int i = 0; i < 8; i++) {
            Check.is("teller", x.teller(i, 0, 239, 0), i);
            Check.is("tellers", x.count(7), i + 1);
        }
    }

    private static GrassField eightTellers() {
        GrassField x = new GrassField();
        for (int i = 0; i < 8; i++) {
            x.teller(i, i, 239, i);
        }
        x.tells(7, 7, 9);
        return x;
    }

    private static void promise30ANinthIsRefused() {
        Check.leaves("a 9th teller", Check.FULL, Promise30To36Test::eightTellers, x -> x.teller(0, 0, 9, 0));
    }

    private static void promise30OfSeveralWrongOnes() {
        Check.refuses("cell and minutes", Check.INDEX, () -> eightTellers().teller(256, 5, 4, 0));
        Check.refuses("cell and listener", Check.INDEX, () -> eightTellers().teller(-1, 0, 0, 10));
        Check.refuses("minutes and no room", Check.ARGUMENT, () -> eightTellers().teller(0, 0, 240, 0));
        Check.refuses("listener and no room", Check.ARGUMENT, () -> eightTellers().teller(0, 0, 0, 10));
    }

    // ---- 31: tells

    private static void promise31TellersAreThoseThatThereAre() {
        GrassField none = new GrassField();
        Check.refuses("teller 0 of none", Check.INDEX, () -> none.tells(0, 0, 0));
        Check.is("teller 7 of 8", eightTellers().tells(7, 0, 0), 1);
        Check.refuses("teller 8 of 8", Check.INDEX, () -> eightTellers().tells(8, 0, 0));
        for (int wrong : new int[] {-1, 2, LEAST, GREATEST}) {
            Check.leaves("teller " + wrong + " of 2", Check.INDEX, x -> x.tells(wrong, 0, 0));
        }
    }

    private static void promise31CellsGoFrom0To255() {
        GrassField x = new GrassField();
        x.teller(0, 0, 9, 0);
        x.tells(0, 0, 0);
        x.tells(0, 255, 0);
        Check.yes("cell 0", x.could(0, false));
        Check.yes("cell 255", x.could(1, false));
        x.ground(17, 17, 1);
        Check.no("cell 255 behind a hill", x.could(1, false));
        for (int wrong : new int[] {-1, 256, LEAST, GREATEST}) {
            Check.leaves("cell " + wrong, Check.INDEX, y -> y.tells(0, wrong, 0));
        }
    }

    private static void promise31MinutesGoFrom0To239() {
        GrassField x = new GrassField();
        x.teller(0, 0, 239, 0);
        Check.is("minute 0", x.tells(0, 0, 0), 0);
        Check.is("minute 239", x.tells(0, 0, 239), 1);
        for (int wrong : new int[] {-1, 240, LEAST, GREATEST}) {
            Check.leaves("minute " + wrong, Check.ARGUMENT, y -> y.tells(0, 0, wrong));
        }
    }

    private static void promise31NumbersGoFrom0To19() {
        GrassField x = eightTellers();
        for (int i = 1; i < 20; i++) {
            Check.is("telling", x.tells(i % 8, i, i), i);
            Check.is("tellings", x.count(8), i + 1);
        }
    }

    private static GrassField twentyTellings() {
        GrassField x = eightTellers();
        for (int i = 1; i < 20; i++) {
            x.tells(i % 8, i, 100);
        }
        return x;
    }

    private static void promise31A21stIsRefused() {
        Check.leaves("a 21st telling", Check.FULL, Promise30To36Test::twentyTellings, x -> x.tells(0, 0, 0));
    }

    private static void promise31OfSeveralWrongOnes() {
        Check.refuses("teller and minute", Check.INDEX, () -> twentyTellings().tells(8, 0, 240));
        Check.refuses("cell and minute", Check.INDEX, () -> twentyTellings().tells(0, 256, -1));
        Check.refuses("minute and no room", Check.ARGUMENT, () -> twentyTellings().tells(0, 0, 240));
    }

    // ---- 32: could

    private static void promise32TellingsAreThoseThatThereAre() {
        GrassField none = new GrassField();
        Check.refuses("telling 0 of none", Check.INDEX, () -> none.could(0, false));
        Check.yes("telling 19 of 20", twentyTellings().could(19, false));
        Check.refuses("telling 20 of 20", Check.INDEX, () -> twentyTellings().could(20, false));
        for (int wrong : new int[] {-1, 3, LEAST, GREATEST}) {
            Check.leaves("telling " + wrong + " of 3", Check.INDEX, x -> x.could(wrong, false));
            Check.leaves("telling " + wrong + " of 3, fits", Check.INDEX, x -> x.could(wrong, true));
        }
    }

    private static void promise32FromAndTillAreIn() {
        Check.no("a minute ahead", wasThere(5, 10, 20, 9));
        Check.yes("the first minute", wasThere(5, 10, 20, 10));
        Check.yes("the last minute", wasThere(5, 10, 20, 20));
        Check.no("a minute behind", wasThere(5, 10, 20, 21));
    }

    private static void promise32TheCellIsSeenFromIts() {
        GrassField x = new GrassField();
        x.teller(0, 0, 9, 0);
        x.tells(0, 2, 0);
        x.ground(1, 1, 1);
        Check.no("a hill between", x.could(0, false));
        x.ground(2, 2, 2);
        Check.yes("as high as the line", x.could(0, false));
        x.ground(2, 2, 1);
        Check.no("above it", x.could(0, false));
    }

    private static void promise32FromTheCellOfTheOneWhoTold() {
        GrassField x = new GrassField();
        x.ground(8, 8, 3);
        x.teller(0, 0, 9, 0);
        x.teller(15, 0, 9, 0);
        x.teller(8, 0, 9, 0);
        for (int teller = 0; teller < 3; teller++) {
            x.tells(teller, 1, 0);
            x.tells(teller, 14, 0);
        }
        boolean[] due = {true, false, false, true, true, true};
        for (int i = 0; i < 6; i++) {
            Check.is("telling " + i, x.could(i, false) ? 1 : 0, due[i] ? 1 : 0);
        }
    }

    private static void promise32Of120Finds() {
        GrassField x = told(136);
        for (int i = 0; i < 119; i++) {
            x.found(0, 0, 1);
        }
        Check.no("119 elsewhere", x.could(0, true));
        x.found(136, 0, 1);
        Check.yes("the 120th", x.could(0, true));
        GrassField none = told(136);
        for (int i = 0; i < 120; i++) {
            none.found(0, 0, 1);
        }
        Check.no("120 elsewhere", none.could(0, true));
    }

    private static GrassField told(int cell) {
        GrassField x = allWalked();
        x.teller(cell, 0, 9, 0);
        x.tells(0, cell, 5);
        x.tells(0, cell, 10);
        return x;
    }

    private static void promise32AFindAtMost1Far() {
        for (int near : new int[] {136, 135, 137, 119, 120, 121, 151, 152, 153}) {
            GrassField x = told(136);
            x.found(near, 0, 0x8000);
            Check.yes("a find in cell " + near, x.could(0, true));
        }
        for (int far : new int[] {134, 138, 104, 168, 102, 170, 122, 154}) {
            GrassField x = told(136);
            x.found(far, 0, 0x8000);
            Check.no("a find in cell " + far, x.could(0, true));
        }
    }

    private static void promise32RowsDoNotMeet() {
        GrassField x = told(15);
        x.found(16, 0, 1);
        Check.no("from x 15 to x 0", x.could(0, true));
    }

    private static void promise32AnyKindButLaterOnes() {
        int[] kindsAndNumbers = {1, 0, 2, 255, 3, 1800, 3, 1999};
        for (int i = 0; i < kindsAndNumbers.length; i += 2) {
            GrassField x = told(136);
            x.other(kindsAndNumbers[i], 136, 0, kindsAndNumbers[i + 1]);
            Check.is("a find of kind " + kindsAndNumbers[i], x.could(0, true) ? 1 : 0, kindsAndNumbers[i] == 3 ? 0 : 1);
        }
    }

    private static void promise32WithoutFindsNothingFits() {
        GrassField x = told(136);
        Check.yes("it could", x.could(0, false));
        Check.no("it does not fit", x.could(0, true));
    }

    private static void promise32OnlyASeenFind() {
        GrassField x = told(136);
        x.found(136, 5, 1);
        x.machine(5, 0);
        Check.yes("as deep as the machine finds", x.could(0, true));
        x.machine(4, 0);
        Check.no("deeper", x.could(0, true));
        GrassField unwalked = new GrassField();
        unwalked.teller(136, 0, 9, 0);
        unwalked.tells(0, 136, 0);
        unwalked.found(136, 0, 1);
        Check.no("in a row that was not walked", unwalked.could(0, true));
    }

    private static void promise32WhatItCouldNotDoesNotFit() {
        GrassField x = told(136);
        x.found(136, 0, 1);
        Check.yes("in minute 5", x.could(0, true));
        Check.no("in minute 10 it was gone", x.could(1, true));
    }

    // ---- 33: talked

    private static void promise33TellersAreThoseThatThereAre() {
        GrassField none = new GrassField();
        Check.refuses("teller 0 of none", Check.INDEX, () -> none.talked(0, 0));
        Check.no("tellers 7 and 0 of 8", eightTellers().talked(7, 0));
        for (int wrong : new int[] {-1, 2, LEAST, GREATEST}) {
            Check.leaves("a " + wrong + " of 2", Check.INDEX, x -> x.talked(wrong, 0));
            Check.leaves("b " + wrong + " of 2", Check.INDEX, x -> x.talked(0, wrong));
            Check.leaves("both " + wrong + " of 2", Check.INDEX, x -> x.talked(wrong, wrong));
        }
    }

    private static GrassField two(int listenerA, int listenerB, int cellA, int cellB) {
        GrassField x = new GrassField();
        x.teller(0, 0, 9, listenerA);
        x.teller(255, 100, 109, listenerB);
        x.tells(0, cellA, 200);
        x.tells(1, cellB, 0);
        return x;
    }

    private static void promise33OneWithItselfDidNot() {
        GrassField x = two(3, 3, 7, 7);
        Check.no("0 with itself", x.talked(0, 0));
        Check.no("1 with itself", x.talked(1, 1));
        Check.yes("both", x.talked(0, 1));
    }

    private static void promise33WithOneListenerOfOneCell() {
        Check.yes("one listener, one cell", two(3, 3, 7, 7).talked(0, 1));
        Check.yes("and the other way", two(3, 3, 7, 7).talked(1, 0));
        Check.no("two listeners", two(3, 4, 7, 7).talked(0, 1));
        Check.no("two cells side by side", two(3, 3, 7, 8).talked(0, 1));
        Check.no("two of both", two(3, 4, 7, 8).talked(1, 0));
    }

    private static void promise33WithoutATellingNobodyDid() {
        GrassField x = new GrassField();
        x.teller(0, 0, 9, 0);
        x.teller(0, 0, 9, 0);
        Check.no("no tellings", x.talked(0, 1));
        x.tells(0, 0, 0);
        Check.no("of one alone", x.talked(0, 1));
        Check.no("and the other way", x.talked(1, 0));
    }

    private static void promise33AnyOfTheirTellings() {
        GrassField x = two(3, 3, 7, 8);
        x.tells(0, 9, 0);
        x.tells(1, 10, 0);
        Check.no("four cells", x.talked(0, 1));
        x.tells(1, 9, 239);
        Check.yes("the last one of each", x.talked(0, 1));
        for (int i = 0; i < 20; i++) {
            GrassField y = new GrassField();
            y.teller(0, 0, 9, 3);
            y.teller(0, 0, 9, 3);
            for (int j = 0; j < 20; j++) {
                y.tells(j % 2, j == i ? 100 : j == (i ^ 1) ? 100 : j, 0);
            }
            Check.yes("telling " + i + " of 20 and the one beside it", y.talked(i % 2, 1 - i % 2));
        }
    }

    private static void promise33Of20TellingsNoCellTwice() {
        GrassField x = new GrassField();
        x.teller(0, 0, 9, 3);
        x.teller(0, 0, 9, 3);
        for (int i = 0; i < 20; i++) {
            x.tells(i % 2, i + 1, 0);
        }
        Check.no("no common one", x.talked(0, 1));
        Check.no("and the other way", x.talked(1, 0));
    }

    private static void promise33CellZeroIsOneLikeOthers() {
        GrassField x = new GrassField();
        x.teller(0, 0, 9, 3);
        x.teller(0, 0, 9, 3);
        x.tells(1, 0, 0);
        Check.no("one told nothing", x.talked(0, 1));
        Check.no("and the other way", x.talked(1, 0));
        x.tells(0, 0, 0);
        Check.yes("both of cell 0", x.talked(0, 1));
    }

    // ---- 34: apart

    private static void promise34WithoutTellersNobody() {
        Check.is("no teller", allWalked().apart(), 0);
        GrassField x = allWalked();
        x.teller(0, 0, 9, 0);
        x.found(0, 0, 1);
        Check.is("one without a telling", x.apart(), 0);
    }

    private static void promise34OneWhoseTellingFits() {
        GrassField x = told(136);
        Check.is("it could alone", x.apart(), 0);
        x.found(136, 0, 1);
        Check.is("it fits", x.apart(), 1);
        x.machine(0, 0);
        x.ground(0, 255, 3);
        Check.is("still", x.apart(), 1);
    }

    private static void promise34AllEightWhoDidNotTalk() {
        GrassField x = allWalked();
        x.found(17, 0, 1);
        for (int i = 0; i < 8; i++) {
            x.teller(17, 0, 9, i);
            x.tells(i, 17, 0);
        }
        Check.is("eight listeners", x.apart(), 8);
        GrassField y = allWalked();
        y.found(17, 0, 1);
        int[] cells = {0, 1, 2, 16, 17, 18, 32, 33};
        for (int i = 0; i < 8; i++) {
            y.teller(17, 0, 9, 0);
            y.tells(i, cells[i], 0);
        }
        Check.is("one listener, eight cells", y.apart(), 8);
    }

    private static void promise34OfAllWhoTalkedOne() {
        GrassField x = allWalked();
        x.found(17, 0, 1);
        for (int i = 0; i < 8; i++) {
            x.teller(17, 0, 9, 5);
            x.tells(i, 17, 0);
        }
        Check.is("one listener, one cell", x.apart(), 1);
    }

    private static void promise34TheMostNotTheFirst() {
        GrassField x = allWalked();
        x.found(17, 0, 1);
        for (int i = 0; i < 4; i++) {
            x.teller(17, 0, 9, 5);
        }
        for (int i = 1; i < 4; i++) {
            x.tells(0, 15 + i, 0);
            x.tells(i, 15 + i, 0);
        }
        Check.is("the first one talked with three who did not", x.apart(), 3);
    }

    private static void promise34ATellingThatDoesNotFitCanTalk() {
        GrassField x = allWalked();
        x.found(17, 0, 1);
        x.teller(17, 0, 9, 5);
        x.teller(17, 0, 9, 5);
        x.tells(0, 17, 0);
        x.tells(1, 18, 0);
        Check.is("two who did not talk", x.apart(), 2);
        x.tells(0, 200, 100);
        x.tells(1, 200, 100);
        Check.is("of a cell where nothing is", x.apart(), 1);
    }

    // ---- 35: who

    private static GrassField bones(int... people) {
        GrassField x = allWalked();
        for (int bits : people) {
            x.other(2, 0, 5, bits);
        }
        return x;
    }

    private static void who(String what, GrassField x, int... due) {
        for (int i = 0; i < due.length; i++) {
            Check.is(what + ": bones " + i, x.who(i), due[i]);
        }
    }

    private static void promise35FindsAreThoseThatThereAre() {
        GrassField none = new GrassField();
        Check.refuses("find 0 of none", Check.INDEX, () -> none.who(0));
        for (int wrong : new int[] {-1, 9, LEAST, GREATEST}) {
            Check.leaves("find " + wrong + " of 9", Check.INDEX, x -> x.who(wrong));
        }
    }

    private static void promise35OnlyBones() {
        for (int find : new int[] {0, 1, 5, 8}) {
            Check.leaves("find " + find, Check.ARGUMENT, x -> x.who(find));
        }
    }

    private static void promise35OnlySeenOnes() {
        GrassField x = bones(1);
        x.machine(5, 0);
        Check.is("as deep as the machine finds", x.who(0), 1);
        x.machine(4, 0);
        Check.refuses("deeper", Check.ARGUMENT, () -> x.who(0));
        GrassField unwalked = new GrassField();
        unwalked.other(2, 0, 0, 1);
        Check.refuses("in a row that was not walked", Check.ARGUMENT, () -> unwalked.who(0));
    }

    private static void promise35OfTheFirst8() {
        GrassField x = bones(255, 255, 255, 255, 255, 255, 255, 255, 255);
        Check.is("the first", x.who(0), 255);
        Check.is("the eighth", x.who(7), 255);
        Check.refuses("the ninth", Check.ARGUMENT, () -> x.who(8));
    }

    private static void promise35OfTheFirst8ThatAreSeen() {
        GrassField x = allWalked();
        x.other(2, 0, 9, 1);
        x.found(0, 0, 1);
        x.other(2, 0, 9, 1);
        for (int i = 0; i < 9; i++) {
            x.other(2, 0, 0, 255);
        }
        x.machine(8, 0);
        Check.is("the eighth that is seen", x.who(10), 255);
        Check.refuses("the ninth that is seen", Check.ARGUMENT, () -> x.who(11));
        Check.refuses("one that is not", Check.ARGUMENT, () -> x.who(0));
    }

    private static void promise35TheNinthTakesNobody() {
        who("eight of all, and one", bones(255, 255, 255, 255, 255, 255, 255, 255, 1), 255, 255, 255, 255, 255, 255, 255, 255);
    }

    private static void promise35EachIsOneOfItsPeople() {
        who("one of one", bones(128), 128);
        who("one of all", bones(255), 255);
        who("two of unlike ones", bones(3, 12), 3, 12);
    }

    private static void promise35NoOneTwice() {
        who("one is known", bones(3, 1), 2, 1);
        who("two of two", bones(3, 3), 3, 3);
        who("two of two, and a third", bones(3, 3, 7), 3, 3, 4);
        who("by turns", bones(3, 6, 12, 8), 1, 2, 4, 8);
    }

    private static void promise35ZeroIfThereIsNoWholeRow() {
        who("two of one", bones(1, 1), 0, 0);
        who("three of two", bones(3, 3, 3), 0, 0, 0);
        who("a fourth has nothing to do with it", bones(3, 3, 3, 128), 0, 0, 0, 0);
    }

    private static void promise35Of120Finds() {
        GrassField x = allWalked();
        for (int i = 0; i < 119; i++) {
            x.found(0, 0, 1);
        }
        x.other(2, 0, 0, 6);
        Check.is("the 120th", x.who(119), 6);
        Check.refuses("find 120", Check.INDEX, () -> x.who(120));
    }

    private static void promise35EightOfEight() {
        who("each its own", bones(1, 2, 4, 8, 16, 32, 64, 128), 1, 2, 4, 8, 16, 32, 64, 128);
        who("the others are known", bones(255, 2, 4, 8, 16, 32, 64, 128), 1, 2, 4, 8, 16, 32, 64, 128);
        who("eight of seven", bones(127, 127, 127, 127, 127, 127, 127, 127), 0, 0, 0, 0, 0, 0, 0, 0);
    }

    // ---- 36: joined

    private static GrassField withGunsAndCases(int... cellsAndMarks) {
        GrassField x = allWalked();
        for (int i = 0; i < 8; i++) {
            x.gun(i % 2, i, 1870, 0);
        }
        for (int i = 0; i < cellsAndMarks.length; i += 2) {
            x.found(cellsAndMarks[i], 0, cellsAndMarks[i + 1]);
        }
        return x;
    }

    private static void promise36CellsGoFrom0To255() {
        GrassField x = withGunsAndCases(0, 1, 255, 1);
        Check.is("0 and 255", x.joined(0, 0, 255, 255, false), 1);
        Check.is("255 and 0", x.joined(255, 255, 0, 0, false), 1);
        for (int wrong : new int[] {-1, 256, LEAST, GREATEST}) {
            Check.leaves("a " + wrong, Check.INDEX, y -> y.joined(wrong, 0, 0, 0, false));
            Check.leaves("b " + wrong, Check.INDEX, y -> y.joined(0, wrong, 0, 0, true));
            Check.leaves("c " + wrong, Check.INDEX, y -> y.joined(0, 0, wrong, 0, false));
            Check.leaves("d " + wrong, Check.INDEX, y -> y.joined(0, 0, 0, wrong, true));
        }
    }

    private static void promise36BothCornersAreIn() {
        GrassField x = withGunsAndCases(17, 1, 34, 2, 18, 4, 33, 8, 35, 16, 16, 32, 200, 255, 200, 1, 200, 2, 200, 4, 200, 8, 200, 16, 200, 32);
        Check.is("17 to 34", x.joined(17, 34, 200, 200, false), 15);
        Check.is("34 to 17", x.joined(200, 200, 34, 17, false), 15);
        Check.is("18 to 33", x.joined(18, 33, 200, 200, false), 15);
        Check.is("33 to 18", x.joined(200, 200, 33, 18, false), 15);
        Check.is("one cell", x.joined(35, 35, 200, 200, false), 16);
    }

    private static void promise36SureOnesOrThoseThatMayBe() {
        GrassField x = withGunsAndCases(0, 3, 0, 4, 255, 1, 255, 6, 255, 4);
        Check.is("sure in both", x.joined(0, 0, 255, 255, false), 4);
        Check.is("may be in both", x.joined(0, 0, 255, 255, true), 7);
        GrassField unknown = withGunsAndCases(0, 0x8000, 255, 0x8000);
        Check.is("unknown ones join nothing", unknown.joined(0, 0, 255, 255, true), 0);
        GrassField sure = withGunsAndCases(0, 128, 255, 128);
        Check.is("sure ones may be", sure.joined(0, 0, 255, 255, true), 128);
        Check.is("all eight", withGunsAndCases(0, 255, 255, 255).joined(0, 0, 255, 255, true), 255);
    }

    private static void promise36WithoutCasesNone() {
        GrassField x = withGunsAndCases(0, 1);
        Check.is("nothing in the other one", x.joined(0, 0, 255, 255, true), 0);
        Check.is("nothing in either", x.joined(100, 200, 50, 51, false), 0);
    }

    private static void promise36AreasThatMeet() {
        GrassField x = withGunsAndCases(0, 1, 5, 2);
        Check.is("one area and itself", x.joined(0, 5, 0, 5, false), 3);
        Check.is("a common cell", x.joined(0, 0, 0, 5, false), 1);
        Check.is("no common cell", x.joined(0, 0, 1, 5, false), 0);
    }

    private static void promise36OnlySeenOnes() {
        GrassField x = allWalked();
        x.gun(0, 0, 1870, 0);
        x.found(0, 5, 1);
        x.found(255, 0, 1);
        x.machine(5, 0);
        Check.is("as deep as the machine finds", x.joined(0, 0, 255, 255, false), 1);
        x.machine(4, 0);
        Check.is("deeper", x.joined(0, 0, 255, 255, false), 0);
        Check.is("deeper, may be", x.joined(0, 0, 255, 255, true), 0);
    }

    private static void promise36Of120Finds() {
        GrassField x = withGunsAndCases(0, 128);
        for (int i = 1; i < 119; i++) {
            x.found(100, 0, 1);
        }
        x.found(255, 0, 128);
        Check.is("the first and the last one", x.joined(0, 0, 255, 255, false), 128);
        Check.is("may be", x.joined(0, 0, 255, 255, true), 128);
    }
}
