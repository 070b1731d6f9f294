/** The boundaries of promises 15 to 21: finds, the machine, rows that are walked, and the row to be walked next. */
public final class Promise15To21Test {
    private static final int LEAST = Integer.MIN_VALUE;
    private static final int GREATEST = Integer.MAX_VALUE;
    private static final int NONE = GrassField.NONE;

    public static void main(String[] args) {
        Check.runPromises(Promise15To21Test.class);
    }

    private static void about(GrassField x, int find, int... due) {
        for (int what = 0; what < due.length; what++) {
            Check.is("about(" + find + ", " + what + ")", x.about(find, what), due[what]);
        }
    }

    /** 120 finds: cases, and one each of the other kinds ahead of them. */
    private static GrassField full() {
        GrassField x = new GrassField();
        x.gun(0, 0, 1870, 0);
        x.walk(0);
        x.other(1, 0, 0, 1);
        x.other(2, 0, 0, 1);
        x.other(3, 0, 0, 1900);
        for (int i = 3; i < 120; i++) {
            x.found(i % 16, i % 10, 1);
        }
        return x;
    }

    // ---- 15: found

    private static void promise15CellsGoFrom0To255() {
        GrassField x = new GrassField();
        about(x, x.found(0, 1, 1), 0, 0, 1, 1);
        about(x, x.found(255, 1, 1), 0, 255, 1, 1);
        for (int wrong : new int[] {-1, 256, LEAST, GREATEST}) {
            Check.leaves("cell " + wrong, Check.INDEX, y -> y.found(wrong, 0, 1));
        }
    }

    private static void promise15DepthsGoFrom0To9() {
        GrassField x = new GrassField();
        about(x, x.found(5, 0, 1), 0, 5, 0, 1);
        about(x, x.found(5, 9, 1), 0, 5, 9, 1);
        for (int wrong : new int[] {-1, 10, LEAST, GREATEST}) {
            Check.leaves("depth " + wrong, Check.ARGUMENT, y -> y.found(0, wrong, 1));
        }
    }

    private static void promise15MarksAreBits0To15() {
        GrassField x = new GrassField();
        for (int marks : new int[] {1, 0x8000, 0x8001, 0xffff}) {
            about(x, x.found(5, 0, marks), 0, 5, 0, marks);
        }
        for (int wrong : new int[] {0x10000, 0x10001, 0x1ffff, -1, LEAST, LEAST + 1, GREATEST}) {
            Check.leaves("marks " + wrong, Check.ARGUMENT, y -> y.found(0, 0, wrong));
        }
    }

    private static void promise15NoMarksAreRefused() {
        Check.leaves("no marks", Check.ARGUMENT, x -> x.found(0, 0, 0));
    }

    private static void promise15NumbersGoFrom0To119() {
        GrassField x = new GrassField();
        for (int i = 0; i < 120; i++) {
            Check.is("case", x.found(i, i % 10, 1 << i % 16), i);
            Check.is("finds", x.count(4), i + 1);
        }
        about(x, 119, 0, 119, 9, 1 << 7);
    }

    private static void promise15A121stIsRefused() {
        Check.leaves("a 121st find", Check.FULL, Promise15To21Test::full, x -> x.found(0, 0, 1));
    }

    private static void promise15OfSeveralWrongOnes() {
        Check.refuses("a wrong cell and depth", Check.INDEX, () -> full().found(256, 10, 1));
        Check.refuses("a wrong cell and no marks", Check.INDEX, () -> full().found(-1, 0, 0));
        Check.refuses("a wrong depth and no room", Check.ARGUMENT, () -> full().found(0, 10, 1));
        Check.refuses("no marks and no room", Check.ARGUMENT, () -> full().found(0, 0, 0));
        Check.refuses("no room", Check.FULL, () -> full().found(0, 0, 1));
    }

    // ---- 16: other

    private static void promise16KindsGoFrom1To3() {
        GrassField x = new GrassField();
        about(x, x.other(1, 7, 1, 1), 1, 7, 1, 1);
        about(x, x.other(2, 7, 1, 1), 2, 7, 1, 1);
        about(x, x.other(3, 7, 1, 1900), 3, 7, 1, 1900);
        for (int n : new int[] {0, 1, 1900}) {
            for (int wrong : new int[] {0, -1, 4, LEAST, GREATEST}) {
                Check.leaves("kind " + wrong + " of " + n, Check.ARGUMENT, y -> y.other(wrong, 0, 0, n));
            }
        }
    }

    private static void promise16CellsGoFrom0To255() {
        GrassField x = new GrassField();
        about(x, x.other(1, 0, 1, 1), 1, 0, 1, 1);
        about(x, x.other(1, 255, 1, 1), 1, 255, 1, 1);
        for (int wrong : new int[] {-1, 256, LEAST, GREATEST}) {
            Check.leaves("cell " + wrong, Check.INDEX, y -> y.other(1, wrong, 0, 1));
        }
    }

    private static void promise16DepthsGoFrom0To9() {
        GrassField x = new GrassField();
        about(x, x.other(1, 5, 0, 1), 1, 5, 0, 1);
        about(x, x.other(2, 5, 9, 1), 2, 5, 9, 1);
        for (int wrong : new int[] {-1, 10, LEAST, GREATEST}) {
            Check.leaves("depth " + wrong, Check.ARGUMENT, y -> y.other(1, 0, wrong, 1));
        }
    }

    private static void promise16SidesOfBallsAre0And1() {
        GrassField x = new GrassField();
        about(x, x.other(1, 5, 0, 0), 1, 5, 0, 0);
        about(x, x.other(1, 5, 0, 1), 1, 5, 0, 1);
        for (int wrong : new int[] {-1, 2, 1900, LEAST, GREATEST}) {
            Check.leaves("side " + wrong, Check.ARGUMENT, y -> y.other(1, 0, 0, wrong));
        }
    }

    private static void promise16PeopleOfBonesAreBits0To7() {
        GrassField x = new GrassField();
        for (int people : new int[] {1, 128, 129, 255}) {
            about(x, x.other(2, 5, 0, people), 2, 5, 0, people);
        }
        for (int wrong : new int[] {256, 257, 511, 1900, -1, LEAST, LEAST + 1, GREATEST}) {
            Check.leaves("people " + wrong, Check.ARGUMENT, y -> y.other(2, 0, 0, wrong));
        }
    }

    private static void promise16BonesOfNobodyAreRefused() {
        Check.leaves("nobody", Check.ARGUMENT, x -> x.other(2, 0, 0, 0));
    }

    private static void promise16YearsOfLaterThingsGoFrom1800To1999() {
        GrassField x = new GrassField();
        about(x, x.other(3, 5, 0, 1800), 3, 5, 0, 1800);
        about(x, x.other(3, 5, 0, 1999), 3, 5, 0, 1999);
        for (int wrong : new int[] {1799, 2000, 0, 1, -1, LEAST, GREATEST}) {
            Check.leaves("year " + wrong, Check.ARGUMENT, y -> y.other(3, 0, 0, wrong));
        }
    }

    private static void promise16NumbersGoOnBehindCases() {
        GrassField x = new GrassField();
        Check.is("a case", x.found(0, 0, 1), 0);
        Check.is("a ball", x.other(1, 0, 0, 0), 1);
        Check.is("a case", x.found(0, 0, 1), 2);
        Check.is("a later thing", x.other(3, 0, 0, 1999), 3);
    }

    private static void promise16The120thIsTaken() {
        GrassField x = new GrassField();
        for (int i = 0; i < 119; i++) {
            x.found(0, 0, 1);
        }
        Check.is("bones", x.other(2, 9, 9, 9), 119);
        about(x, 119, 2, 9, 9, 9);
    }

    private static void promise16A121stIsRefused() {
        Check.leaves("a ball", Check.FULL, Promise15To21Test::full, x -> x.other(1, 0, 0, 1));
        Check.leaves("bones", Check.FULL, Promise15To21Test::full, x -> x.other(2, 0, 0, 1));
        Check.leaves("a later thing", Check.FULL, Promise15To21Test::full, x -> x.other(3, 0, 0, 1900));
    }

    private static void promise16OfSeveralWrongOnes() {
        Check.refuses("a wrong cell and kind", Check.INDEX, () -> full().other(0, 256, 0, 1));
        Check.refuses("a wrong cell and depth", Check.INDEX, () -> full().other(1, -1, 10, 1));
        Check.refuses("a wrong cell and side", Check.INDEX, () -> full().other(1, 256, 0, 2));
        Check.refuses("a wrong kind and no room", Check.ARGUMENT, () -> full().other(4, 0, 0, 1));
        Check.refuses("a wrong depth and no room", Check.ARGUMENT, () -> full().other(1, 0, 10, 1));
        Check.refuses("a wrong side and no room", Check.ARGUMENT, () -> full().other(1, 0, 0, 2));
        Check.refuses("nobody and no room", Check.ARGUMENT, () -> full().other(2, 0, 0, 0));
        Check.refuses("a wrong year and no room", Check.ARGUMENT, () -> full().other(3, 0, 0, 2000));
    }

    // ---- 17: about

    private static void promise17FindsAreThoseThatThereAre() {
        GrassField none = new GrassField();
        Check.refuses("find 0 of none", Check.INDEX, () -> none.about(0, 0));
        Check.takes("find 8 of 9", () -> Rich.make().about(8, 0));
        for (int wrong : new int[] {-1, 9, 120, LEAST, GREATEST}) {
            Check.leaves("find " + wrong + " of 9", Check.INDEX, x -> x.about(wrong, 0));
        }
        Check.is("find 119 of 120", full().about(119, 0), 0);
        Check.refuses("find 120 of 120", Check.INDEX, () -> full().about(120, 0));
    }

    private static void promise17WhatGoesFrom0To7() {
        GrassField x = new GrassField();
        x.gun(0, 15, 1870, 0);
        x.found(7, 8, 0x8001);
        x.when(0, 5, 6);
        x.walk(0);
        about(x, 0, 0, 7, 8, 0x8001, 1, 1, 5, 6);
        for (int wrong : new int[] {-1, 8, LEAST, GREATEST}) {
            Check.leaves("what " + wrong, Check.NO_SUCH, y -> y.about(0, wrong));
        }
    }

    private static void promise17AWrongFindIsToldAheadOfAWrongWhat() {
        Check.refuses("find 9, what 8", Check.INDEX, () -> Rich.make().about(9, 8));
        Check.refuses("find -1, what -1", Check.INDEX, () -> Rich.make().about(-1, -1));
    }

    private static void promise17SeenOrNotAllIsKnown() {
        GrassField x = new GrassField();
        x.gun(0, 0, 1870, 0);
        x.found(7, 8, 1);
        x.when(0, 5, 6);
        about(x, 0, 0, 7, 8, 1, 0, 1, 5, 6);
        x.walk(0);
        about(x, 0, 0, 7, 8, 1, 1, 1, 5, 6);
        x.machine(7, 0);
        about(x, 0, 0, 7, 8, 1, 0, 1, 5, 6);
    }

    private static void promise17OfNoCase() {
        GrassField x = new GrassField();
        x.gun(0, 0, 1870, 0);
        x.other(1, 0, 0, 1);
        x.other(2, 0, 0, 1);
        x.other(3, 0, 0, 1801);
        about(x, 0, 1, 0, 0, 1, 0, 0, 0, 239);
        about(x, 1, 2, 0, 0, 1, 0, 0, 0, 239);
        about(x, 2, 3, 0, 0, 1801, 0, 0, 0, 239);
    }

    private static void promise17GunsOfWhichItMayBe() {
        GrassField x = new GrassField();
        x.found(0, 0, 0x8001);
        Check.is("without guns", x.about(0, 5), 0);
        for (int i = 0; i < 8; i++) {
            x.gun(0, new int[] {0, 1, 15, 14, 0, 15, 7, 0}[i], 1870, 0);
        }
        Check.is("marks 0 and 15", x.about(0, 5), 0b10110101);
        Check.is("all marks", x.about(x.found(0, 0, 0xffff), 5), 255);
        Check.is("marks of no gun", x.about(x.found(0, 0, 0x3f7c), 5), 0);
    }

    // ---- 18: when

    private static void promise18MinutesGoFrom0To239() {
        GrassField x = new GrassField();
        x.found(0, 0, 1);
        Check.is("from at first", x.about(0, 6), 0);
        Check.is("till at first", x.about(0, 7), 239);
        int[][] taken = {{0, 0}, {239, 239}, {0, 239}, {100, 100}, {0, 1}, {238, 239}};
        for (int[] minutes : taken) {
            x.when(0, minutes[0], minutes[1]);
            Check.is("from", x.about(0, 6), minutes[0]);
            Check.is("till", x.about(0, 7), minutes[1]);
        }
    }

    private static void promise18OthersAreRefused() {
        int[][] wrong = {{-1, 0}, {-1, -1}, {0, -1}, {0, 240}, {240, 240}, {240, 239}, {1, 0}, {239, 238}, {LEAST, 5}, {5, GREATEST},
            {GREATEST, LEAST}};
        for (int[] minutes : wrong) {
            Check.leaves("when(2, " + minutes[0] + ", " + minutes[1] + ")", Check.ARGUMENT,
                x -> x.when(2, minutes[0], minutes[1]));
        }
    }

    private static void promise18OnlyCasesHaveMinutes() {
        for (int find : new int[] {1, 5, 6, 8}) {
            Check.leaves("find " + find, Check.ARGUMENT, x -> x.when(find, 1, 2));
        }
    }

    private static void promise18FindsAreThoseThatThereAre() {
        for (int wrong : new int[] {-1, 9, LEAST, GREATEST}) {
            Check.leaves("find " + wrong + " of 9", Check.INDEX, x -> x.when(wrong, 1, 2));
            Check.leaves("find " + wrong + " of 9, and wrong minutes", Check.INDEX, x -> x.when(wrong, 2, 1));
        }
        GrassField none = new GrassField();
        Check.refuses("find 0 of none", Check.INDEX, () -> none.when(0, 0, 0));
    }

    private static void promise18ACaseThatIsNotSeenHasMinutesToo() {
        GrassField x = new GrassField();
        x.found(0, 0, 1);
        x.when(0, 3, 4);
        Check.is("from", x.about(0, 6), 3);
    }

    private static void promise18OfThatCaseAlone() {
        GrassField x = new GrassField();
        x.found(0, 0, 1);
        x.found(0, 0, 1);
        x.found(0, 0, 1);
        x.when(1, 3, 4);
        about(x, 0, 0, 0, 0, 1, 0, 0, 0, 239);
        about(x, 1, 0, 0, 0, 1, 0, 0, 3, 4);
        about(x, 2, 0, 0, 0, 1, 0, 0, 0, 239);
    }

    // ---- 19: machine

    /** A find at each depth 0 to 9 in row 8, and one at depth 0 in each other row. */
    private static GrassField ladder() {
        GrassField x = new GrassField();
        for (int depth = 0; depth < 10; depth++) {
            x.found(16 * 8 + depth, depth, 1);
        }
        for (int row = 0; row < 16; row++) {
            if (row != 8) {
                x.found(16 * row, 0, 1);
            }
        }
        return x;
    }

    private static void promise19DepthsGoFrom0To9() {
        GrassField x = ladder();
        x.walk(8);
        for (int depth = 0; depth < 10; depth++) {
            x.machine(depth, 0);
            Check.is("at or above " + depth, x.count(5), depth + 1);
            Check.is("at " + depth, x.about(depth, 4), 1);
            Check.is("below " + depth, x.about(Math.min(9, depth + 1), 4), depth == 9 ? 1 : 0);
        }
        for (int wrong : new int[] {-1, 10, LEAST, GREATEST}) {
            Check.leaves("depth " + wrong, Check.ARGUMENT, y -> y.machine(wrong, 0));
        }
    }

    private static void promise19ItIs0To3Wide() {
        GrassField x = ladder();
        x.walk(8);
        for (int wide = 0; wide < 4; wide++) {
            x.machine(0, wide);
            Check.is(wide + " wide", x.count(5), 2 * wide + 1);
            Check.is("the row " + wide + " above", x.about(wide == 0 ? 0 : 10 + 8 - wide, 4), 1);
            Check.is("one row farther", x.about(10 + 8 - wide - 1, 4), 0);
            Check.is("the row " + wide + " below", x.about(wide == 0 ? 0 : 9 + 8 + wide, 4), 1);
            Check.is("one row farther", x.about(9 + 8 + wide + 1, 4), 0);
        }
        for (int wrong : new int[] {-1, 4, LEAST, GREATEST}) {
            Check.leaves(wrong + " wide", Check.ARGUMENT, y -> y.machine(0, wrong));
        }
    }

    private static void promise19RowsDoNotGoRound() {
        for (int row : new int[] {0, 15}) {
            GrassField x = ladder();
            x.machine(0, 3);
            Check.is("row " + row + " and three beside it", x.walk(row), 4);
            Check.is("row " + (15 - row) + " is not seen by it", x.about(row == 0 ? 24 : 10, 4), 0);
            Check.is("it brings four more", x.walk(15 - row), 4);
        }
    }

    private static void promise19ItCountsAtOnceForAllThatWasWalked() {
        GrassField x = ladder();
        x.walk(0);
        x.walk(8);
        Check.is("9 deep", x.count(5), 11);
        x.machine(4, 0);
        Check.is("4 deep", x.count(5), 6);
        x.machine(9, 0);
        Check.is("9 deep again", x.count(5), 11);
    }

    // ---- 20: walk

    private static void promise20RowsGoFrom0To15() {
        GrassField x = ladder();
        Check.is("row 0", x.walk(0), 1);
        Check.is("row 15", x.walk(15), 1);
        Check.is("rows walked", x.count(10), 2);
        for (int wrong : new int[] {-1, 16, 31, 32, LEAST, GREATEST}) {
            Check.leaves("row " + wrong, Check.INDEX, y -> y.walk(wrong));
        }
    }

    private static void promise20OnceMoreNothingIsNew() {
        GrassField x = ladder();
        Check.is("row 8", x.walk(8), 10);
        Check.is("row 8 again", x.walk(8), 0);
        Check.is("rows walked", x.count(10), 1);
        x.found(128, 0, 1);
        Check.is("what comes later is seen at once", x.walk(8), 0);
    }

    private static void promise20WhatIsSeenIsNotCountedTwice() {
        GrassField x = ladder();
        x.machine(9, 1);
        Check.is("row 6: 5 to 7", x.walk(6), 3);
        Check.is("row 7: 8 alone is new", x.walk(7), 10);
        Check.is("row 8: 9 alone is new", x.walk(8), 1);
    }

    private static void promise20WhereNothingLies() {
        GrassField x = new GrassField();
        Check.is("row 3", x.walk(3), 0);
        Check.is("rows walked", x.count(10), 1);
    }

    private static void promise20AllRows() {
        GrassField x = ladder();
        for (int row = 0; row < 16; row++) {
            Check.is("row " + row, x.walk(row), row == 8 ? 10 : 1);
            Check.is("rows walked", x.count(10), row + 1);
        }
        Check.is("seen", x.count(5), 25);
    }

    private static void promise20WhatLiesTooDeepIsNotSeen() {
        GrassField x = ladder();
        x.machine(3, 0);
        Check.is("4 of 10", x.walk(8), 4);
    }

    // ---- 21: next

    private static void promise21WithoutFindsTheLeastRow() {
        GrassField x = new GrassField();
        Check.is("of all", x.next(), 0);
        x.walk(0);
        Check.is("of those that are left", x.next(), 1);
        x.walk(1);
        x.walk(2);
        x.walk(4);
        Check.is("of those that are left", x.next(), 3);
    }

    private static void promise21NoneWhenAllAreWalked() {
        GrassField x = ladder();
        for (int row = 0; row < 15; row++) {
            x.walk(row);
        }
        Check.is("one is left", x.next(), 15);
        x.walk(15);
        Check.is("none is left", x.next(), NONE);
        x.found(0, 0, 1);
        Check.is("whatever lies there", x.next(), NONE);
    }

    private static void promise21ByWhichMostComeToBeSeen() {
        GrassField x = ladder();
        Check.is("row 8 has ten", x.next(), 8);
        x.walk(8);
        Check.is("all others have one", x.next(), 0);
        x.other(1, 255, 0, 1);
        Check.is("row 15 has two", x.next(), 15);
        x.other(1, 32, 0, 1);
        Check.is("row 2 has two too", x.next(), 2);
    }

    private static void promise21WhatLiesTooDeepDoesNotCount() {
        GrassField x = new GrassField();
        x.found(16, 9, 1);
        x.found(17, 9, 1);
        x.found(48, 3, 1);
        Check.is("9 deep", x.next(), 1);
        x.machine(8, 0);
        Check.is("8 deep", x.next(), 3);
        x.machine(2, 0);
        Check.is("2 deep: none", x.next(), 0);
    }

    private static void promise21AsWideAsTheMachineIs() {
        GrassField x = new GrassField();
        x.found(16 * 6, 0, 1);
        x.found(16 * 12, 0, 1);
        Check.is("0 wide", x.next(), 6);
        x.machine(9, 2);
        Check.is("2 wide: one of both", x.next(), 4);
        x.machine(9, 3);
        Check.is("3 wide: both", x.next(), 9);
    }

    private static void promise21AWalkedRowIsNoneHoweverMuchItWouldBring() {
        GrassField x = new GrassField();
        x.walk(5);
        x.found(80, 9, 1);
        x.machine(8, 0);
        Check.is("nothing can come to be seen", x.next(), 0);
        x.machine(9, 1);
        Check.is("row 5 is seen", x.next(), 0);
    }

    private static void promise21WhatIsSeenDoesNotCome() {
        GrassField x = new GrassField();
        x.machine(9, 1);
        x.found(16 * 5, 0, 1);
        x.found(16 * 5, 0, 1);
        x.found(16 * 12, 0, 1);
        x.walk(5);
        Check.is("one beyond rows 4 to 6", x.next(), 11);
    }

    private static void promise21AllKindsCount() {
        GrassField x = new GrassField();
        x.found(0, 0, 1);
        x.found(0, 0, 1);
        x.other(1, 32, 0, 1);
        x.other(2, 32, 0, 1);
        x.other(3, 32, 0, 1800);
        Check.is("three kinds in row 2", x.next(), 2);
    }
}
