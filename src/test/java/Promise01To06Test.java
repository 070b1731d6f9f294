/** The boundaries of promises 1 to 6: a new object, the tape, heights, what is seen from where. */
public final class Promise01To06Test {
    private static final int LEAST = Integer.MIN_VALUE;
    private static final int GREATEST = Integer.MAX_VALUE;
    private static final int BLANKS = 0x20202020;

    public static void main(String[] args) {
        Check.runPromises(Promise01To06Test.class);
    }

    // ---- 1: a new object

    private static void promise01ItIsFlat() {
        GrassField x = new GrassField();
        for (int cell = 0; cell < 256; cell++) {
            Check.is("height(" + cell + ")", x.height(cell), 0);
        }
    }

    private static void promise01NobodyAndNothing() {
        GrassField x = new GrassField();
        for (int what = 0; what < 12; what++) {
            Check.is("count(" + what + ")", x.count(what), 0);
        }
        Check.refuses("person 0", Check.INDEX, () -> x.look(0, 0));
        Check.refuses("find 0", Check.INDEX, () -> x.about(0, 0));
        Check.refuses("gun 0", Check.INDEX, () -> x.way(0, 0));
        Check.refuses("telling 0", Check.INDEX, () -> x.could(0, false));
        Check.refuses("teller 0", Check.INDEX, () -> x.talked(0, 0));
        Check.refuses("story 0", Check.INDEX, () -> x.holds(0));
    }

    private static void promise01NothingIsToldByNothing() {
        GrassField x = new GrassField();
        Check.is("needed", x.needed(0, 255), 0);
        Check.is("later", x.later(0), 0);
        Check.is("modern", x.later(1), 0);
        Check.is("unknown", x.later(2), 0);
        Check.is("held", x.held(0, 0, 15, false), 0);
        Check.is("broke", x.held(0, 0, 0, true), GrassField.NONE);
        Check.is("heaps", x.heaps(1, false), 0);
        Check.is("the first heap", x.heaps(1, true), GrassField.NONE);
        Check.is("length", x.length(0, 1, 1, true), 0);
        Check.is("still", x.still(0, 255), 0);
        Check.is("apart", x.apart(), 0);
        Check.is("joined", x.joined(0, 255, 0, 255, true), 0);
    }

    private static void promise01NoRowIsWalked() {
        GrassField x = new GrassField();
        x.machine(9, 3);
        for (int row = 0; row < 16; row++) {
            x.found(16 * row, 0, 1);
        }
        Check.is("rows walked", x.count(10), 0);
        Check.is("finds seen", x.count(5), 0);
    }

    private static void promise01TheSeedIs0() {
        Check.is("9 far, of the first draw 0", livingBehindOneShot(new GrassField(), 9), 1);
        GrassField one = new GrassField();
        one.seed(1);
        Check.is("9 far, of the first draw from 1", livingBehindOneShot(one, 9), 2);
    }

    private static int livingBehindOneShot(GrassField x, int far) {
        x.gun(0, 0, 1870, 1);
        x.gun(1, 0, 1870, 0);
        Check.law(x, "shoot");
        x.person(0, 0, 0, 0);
        x.person(1, far, 0, GrassField.NONE);
        x.run(1);
        return x.count(2);
    }

    private static void promise01TheDayIsIn1876() {
        GrassField x = new GrassField();
        x.walk(0);
        x.other(3, 0, 0, 1876);
        Check.is("1876 is not above it", x.later(0), 0);
        x.other(3, 0, 0, 1877);
        Check.is("1877 is above it", x.later(0), 1);
    }

    private static void promise01TheMachineFinds9DeepAnd0Wide() {
        GrassField x = new GrassField();
        x.found(16, 9, 1);
        x.found(0, 0, 1);
        x.found(32, 0, 1);
        Check.is("what lies 9 deep in the row, and no row beside it", x.walk(1), 1);
    }

    private static void promise01NoMinuteHasGone() {
        GrassField x = new GrassField();
        Check.is("minutes gone", x.count(6), 0);
        Check.is("the first one", x.run(1), 1);
    }

    private static void promise01NoTextWasReadAndNoImageKept() {
        GrassField x = new GrassField();
        Check.is("fault", x.fault(), GrassField.NONE);
        Check.no("a tape of one byte", x.end(1));
        Check.no("back", x.back());
    }

    private static void promise01NoneIsMinus1() {
        Check.is("NONE", GrassField.NONE, -1);
    }

    private static void promise01The512thCallIsAnsweredYet() {
        GrassField x = new GrassField();
        x.ground(7, 7, 7);
        for (int call = 2; call < 512; call++) {
            Check.is("call " + call, x.height(7), 7);
        }
        Check.is("call 512", x.walk(0), 0);
    }

    private static void promise01ObjectsShareNothing() {
        GrassField x = new GrassField();
        GrassField y = Rich.make();
        Check.alike("a field beside another one", Rich.print(x), Rich.print(new GrassField()));
        Check.alike("and the other one", Rich.print(y), Rich.print(Rich.make()));
    }

    // ---- 2: feed

    private static GrassField fed(int times, int sign) {
        GrassField x = new GrassField();
        for (int i = 0; i < times; i++) {
            x.feed(sign, sign, sign, sign, sign);
        }
        return x;
    }

    private static void promise02TwentyBytesComeToAnEmptyTape() {
        GrassField x = new GrassField();
        Check.is("feed", x.feed(0, 0, 0, 0, 0), 20);
        Check.no("end(21)", x.end(21));
        Check.yes("end(20)", x.end(20));
    }

    private static void promise02EachByteHasItsPlace() {
        for (int place = 0; place < 20; place++) {
            int[] n = {BLANKS, BLANKS, BLANKS, BLANKS, BLANKS};
            int shift = 24 - 8 * (place % 4);
            n[place / 4] = BLANKS & ~(0xff << shift) | '?' << shift;
            GrassField x = new GrassField();
            x.feed(n[0], n[1], n[2], n[3], n[4]);
            Check.refuses("a ? at " + place, Check.ARGUMENT, () -> x.law());
            Check.is("its place", x.fault(), place);
        }
    }

    private static void promise02TheyComeBehindTheTape() {
        GrassField x = new GrassField();
        x.feed(BLANKS, BLANKS, BLANKS, BLANKS, BLANKS);
        Check.is("a second feed", x.feed(BLANKS, 0x203f2020, BLANKS, BLANKS, BLANKS), 40);
        Check.refuses("a ? in the second feed", Check.ARGUMENT, () -> x.law());
        Check.is("its place", x.fault(), 25);
    }

    private static void promise02BehindATapeThatWasCut() {
        GrassField x = fed(1, BLANKS);
        x.end(3);
        Check.is("feed behind 3 bytes", x.feed('?' << 24, 0, 0, 0, 0), 23);
        Check.refuses("a ? behind 3 blanks", Check.ARGUMENT, () -> x.law());
        Check.is("its place", x.fault(), 3);
    }

    private static void promise02BytesGoTo255() {
        for (int sign : new int[] {127, 128, 129, 255}) {
            GrassField x = new GrassField();
            x.feed(0x686f6c64, sign << 24 | 0x202020, BLANKS, BLANKS, BLANKS);
            Check.refuses("hold and byte " + sign, Check.ARGUMENT, () -> x.law());
            Check.is("fault at byte " + sign, x.fault(), 4);
        }
        GrassField all = new GrassField();
        all.feed(0x20ffffff, -1, -1, -1, -1);
        Check.refuses("bytes of 255", Check.ARGUMENT, () -> all.law());
        Check.is("the first of them", all.fault(), 1);
    }

    private static void promise02FourHundredBytesAreTaken() {
        GrassField x = fed(19, BLANKS);
        Check.is("the 20th feed", x.feed(BLANKS, BLANKS, BLANKS, BLANKS, 0x2020203f), 400);
        Check.refuses("a ? as the last of 400 bytes", Check.ARGUMENT, () -> x.law());
        Check.is("its place", x.fault(), 399);
    }

    private static void promise02BeyondFourHundredNoneCome() {
        GrassField x = fed(20, BLANKS);
        Check.is("a 21st feed", x.feed(-1, -1, -1, -1, -1), GrassField.NONE);
        Check.no("end(401)", x.end(401));
        Check.yes("end(400)", x.end(400));
        Check.is("400 blanks are a law", x.law(), 0);
    }

    private static void promise02OneByteTooManyIsTooMany() {
        GrassField x = fed(20, BLANKS);
        x.end(381);
        Check.is("feed behind 381", x.feed(-1, -1, -1, -1, -1), GrassField.NONE);
        Check.no("end(382)", x.end(382));
        Check.is("381 blanks are a law", x.law(), 0);
    }

    private static void promise02Behind380ThereIsRoom() {
        GrassField x = fed(20, BLANKS);
        x.end(380);
        Check.is("feed behind 380", x.feed(BLANKS, BLANKS, BLANKS, BLANKS, BLANKS), 400);
        Check.yes("end(400)", x.end(400));
    }

    private static void promise02AfterATextThereIsRoom() {
        GrassField x = fed(20, BLANKS);
        x.law();
        Check.is("feed behind a law", x.feed(0, 0, 0, 0, 0), 20);
    }

    private static void promise02ARefusedFeedChangesNothing() {
        GrassField tried = Rich.make();
        GrassField other = Rich.make();
        for (GrassField x : new GrassField[] {tried, other}) {
            for (int i = 0; i < 19; i++) {
                x.feed(BLANKS, BLANKS, BLANKS, BLANKS, BLANKS);
            }
        }
        Check.is("feed behind 398", tried.feed(-1, -1, -1, -1, -1), GrassField.NONE);
        Check.alike("a refused feed", Rich.print(tried), Rich.print(other));
    }

    // ---- 3: end

    private static void promise03AllBytesMayStay() {
        GrassField x = fed(1, BLANKS);
        Check.yes("end(20)", x.end(20));
        Check.yes("and once more", x.end(20));
        Check.is("feed", x.feed(0, 0, 0, 0, 0), 40);
    }

    private static void promise03MoreThanThereAreIsRefused() {
        GrassField x = new GrassField();
        x.feed(BLANKS, BLANKS, BLANKS, BLANKS, 0x2020203f);
        Check.no("end(21)", x.end(21));
        Check.no("end(greatest int)", x.end(GREATEST));
        Check.refuses("all 20 bytes are there", Check.ARGUMENT, () -> x.law());
        Check.is("the last one too", x.fault(), 19);
    }

    private static void promise03BelowZeroIsRefused() {
        GrassField x = fed(1, BLANKS);
        Check.no("end(-1)", x.end(-1));
        Check.no("end(least int)", x.end(LEAST));
        Check.yes("all 20 bytes are there", x.end(20));
    }

    private static void promise03NoneMayStay() {
        GrassField x = fed(2, -1);
        Check.yes("end(0)", x.end(0));
        Check.no("end(1)", x.end(1));
        Check.is("an empty text is a law", x.law(), 0);
    }

    private static void promise03OfAnEmptyTape() {
        GrassField x = new GrassField();
        Check.yes("end(0)", x.end(0));
        Check.no("end(1)", x.end(1));
        Check.no("end(-1)", x.end(-1));
    }

    private static void promise03TheFirstOnesStay() {
        GrassField x = new GrassField();
        x.feed(0x686f6c64, -1, -1, -1, -1);
        Check.yes("end(4)", x.end(4));
        Check.is("law 'hold'", x.law(), 0);
        GrassField y = new GrassField();
        y.feed(0x686f6c64, -1, -1, -1, -1);
        Check.yes("end(5)", y.end(5));
        Check.refuses("'hold' and one more", Check.ARGUMENT, () -> y.law());
        Check.is("its place", y.fault(), 4);
    }

    private static void promise03WhatWentDoesNotComeBack() {
        GrassField x = fed(1, BLANKS);
        Check.yes("end(4)", x.end(4));
        Check.no("end(5)", x.end(5));
        Check.no("end(20)", x.end(20));
        Check.yes("end(4)", x.end(4));
    }

    private static void promise03ARefusedEndChangesNothing() {
        for (int n : new int[] {-1, LEAST, 19, GREATEST}) {
            GrassField x = Rich.make();
            Check.no("end(" + n + ")", x.end(n));
            Check.alike("end(" + n + ")", Rich.print(x), Rich.print(Rich.make()));
        }
    }

    // ---- 4: ground

    private static void promise04HeightsGoFrom0To9() {
        GrassField x = new GrassField();
        x.ground(5, 5, 9);
        Check.is("height 9", x.height(5), 9);
        x.ground(5, 5, 0);
        Check.is("height 0", x.height(5), 0);
        for (int wrong : new int[] {-1, 10, LEAST, GREATEST}) {
            Check.leaves("height " + wrong, Check.ARGUMENT, y -> y.ground(0, 255, wrong));
        }
    }

    private static void promise04CellsGoFrom0To255() {
        GrassField x = new GrassField();
        x.ground(0, 0, 3);
        x.ground(255, 255, 4);
        Check.is("cell 0", x.height(0), 3);
        Check.is("cell 255", x.height(255), 4);
        for (int wrong : new int[] {-1, 256, LEAST, GREATEST}) {
            Check.leaves("from " + wrong, Check.INDEX, y -> y.ground(wrong, 17, 5));
            Check.leaves("to " + wrong, Check.INDEX, y -> y.ground(17, wrong, 5));
        }
    }

    private static void promise04AWrongCellIsToldAheadOfAWrongHeight() {
        Check.leaves("cell 256, height 10", Check.INDEX, x -> x.ground(256, 0, 10));
        Check.leaves("cell -1, height -1", Check.INDEX, x -> x.ground(0, -1, -1));
    }

    private static void heights(String what, int from, int to, int... raised) {
        GrassField x = new GrassField();
        x.ground(from, to, 6);
        int at = 0;
        for (int cell = 0; cell < 256; cell++) {
            boolean isRaised = at < raised.length && raised[at] == cell;
            at += isRaised ? 1 : 0;
            Check.is(what + ": cell " + cell, x.height(cell), isRaised ? 6 : 0);
        }
    }

    private static void promise04OneCellIsAnArea() {
        heights("cell 100", 100, 100, 100);
        heights("cell 15", 15, 15, 15);
    }

    private static void promise04BothCornersAreIn() {
        heights("2 by 3", 17, 50, 17, 18, 33, 34, 49, 50);
    }

    private static void promise04AnyTwoCornersAcrossTellIt() {
        heights("from below", 50, 17, 17, 18, 33, 34, 49, 50);
        heights("from the right above", 18, 49, 17, 18, 33, 34, 49, 50);
        heights("from the left below", 49, 18, 17, 18, 33, 34, 49, 50);
    }

    private static void promise04ARowEndsAtX15() {
        heights("14 to 15", 14, 15, 14, 15);
        heights("31 to 30", 31, 30, 30, 31);
    }

    private static void promise04AWholeRowAndAWholeColumn() {
        heights("row 15", 240, 255, 240, 241, 242, 243, 244, 245, 246, 247, 248, 249, 250, 251, 252, 253, 254, 255);
        heights("column 0", 240, 0, 0, 16, 32, 48, 64, 80, 96, 112, 128, 144, 160, 176, 192, 208, 224, 240);
        heights("column 15", 15, 255, 15, 31, 47, 63, 79, 95, 111, 127, 143, 159, 175, 191, 207, 223, 239, 255);
    }

    private static void promise04TheWholeField() {
        int[] all = new int[256];
        for (int cell = 0; cell < 256; cell++) {
            all[cell] = cell;
        }
        heights("0 to 255", 0, 255, all);
        heights("15 to 240", 15, 240, all);
    }

    private static void promise04TheLatestHeightStays() {
        GrassField x = new GrassField();
        x.ground(0, 255, 9);
        x.ground(17, 34, 2);
        Check.is("in it", x.height(33), 2);
        Check.is("beside it", x.height(35), 9);
    }

    // ---- 5: height

    private static void promise05CellsGoFrom0To255() {
        GrassField x = new GrassField();
        x.ground(0, 0, 1);
        x.ground(255, 255, 2);
        Check.is("cell 0", x.height(0), 1);
        Check.is("cell 1", x.height(1), 0);
        Check.is("cell 254", x.height(254), 0);
        Check.is("cell 255", x.height(255), 2);
    }

    private static void promise05OtherCellsAreNone() {
        for (int wrong : new int[] {-1, 256, LEAST, GREATEST}) {
            Check.leaves("cell " + wrong, Check.INDEX, x -> x.height(wrong));
        }
    }

    // ---- 6: sees

    private static void sight(String what, boolean due, int from, int to, int... cellsAndHeights) {
        GrassField x = new GrassField();
        for (int i = 0; i < cellsAndHeights.length; i += 2) {
            x.ground(cellsAndHeights[i], cellsAndHeights[i], cellsAndHeights[i + 1]);
        }
        Check.is(what, x.sees(from, to) ? 1 : 0, due ? 1 : 0);
        Check.is(what + ", and back", x.sees(to, from) ? 1 : 0, due ? 1 : 0);
    }

    private static void promise06ACellIsSeenFromItself() {
        sight("cell 0", true, 0, 0, 0, 9, 1, 9);
        sight("cell 255", true, 255, 255);
    }

    private static void promise06OneFarThereIsNoStepBetween() {
        sight("beside", true, 17, 18, 17, 0, 18, 9);
        sight("below", true, 17, 33, 17, 9, 33, 0);
        sight("across", true, 17, 34, 18, 9, 33, 9);
    }

    private static void promise06TwoFarThereIsOne() {
        sight("over 1", false, 0, 2, 1, 1);
        sight("over nothing", true, 0, 2);
    }

    private static void promise06TheFirstAndTheLastStepCount() {
        sight("k is 1", false, 0, 15, 1, 1);
        sight("k is FAR less 1", false, 0, 15, 14, 1);
    }

    private static void promise06TheEndsAreNoSteps() {
        sight("a high one looks, a low one is seen", true, 0, 3, 0, 9);
        sight("a low one looks, a high one is seen", true, 0, 3, 3, 9);
        sight("behind it nothing counts", true, 4, 8, 3, 9, 9, 9);
    }

    private static void promise06AsHighAsTheLineIsNotAbove() {
        sight("level", true, 0, 2, 0, 4, 1, 4, 2, 4);
        sight("a little above", false, 0, 2, 0, 4, 1, 5, 2, 4);
        sight("half way from 0 to 2", true, 0, 2, 1, 1, 2, 2);
        sight("above half way from 0 to 2", false, 0, 2, 1, 2, 2, 2);
        sight("half way from 0 to 1", false, 0, 2, 1, 1, 2, 1);
        sight("a third of 9", true, 0, 3, 1, 3, 2, 6, 3, 9);
        sight("more than a third of 9", false, 0, 3, 1, 4, 2, 6, 3, 9);
        sight("more than two thirds of 9", false, 0, 3, 1, 3, 2, 7, 3, 9);
        sight("two thirds of 9 going down", true, 0, 3, 0, 9, 1, 6, 2, 3);
        sight("more than that", false, 0, 3, 0, 9, 1, 6, 2, 4);
    }

    private static void promise06HalvesGoUp() {
        sight("x 0 to 1 half way is 1", false, 0, 33, 17, 1);
        sight("and not 0", true, 0, 33, 16, 9);
        sight("x 1 to 0 half way is 1", false, 1, 32, 17, 1);
        sight("and not 0", true, 1, 32, 16, 9);
        sight("y 0 to 1 half way is 1", false, 0, 18, 17, 1);
        sight("and not 0", true, 0, 18, 1, 9);
        sight("y 1 to 0 half way is 1", false, 16, 2, 17, 1);
        sight("and not 0", true, 16, 2, 1, 9);
        sight("x 14 to 15 half way is 15", false, 14, 47, 31, 1);
    }

    private static void promise06ElseToTheNearest() {
        sight("a third of y", false, 0, 19, 1, 1);
        sight("two thirds of y", false, 0, 19, 18, 1);
        sight("by no other cells", true, 0, 19, 17, 9, 2, 9, 16, 9);
        sight("a third of x", false, 0, 49, 16, 1);
        sight("two thirds of x", false, 0, 49, 33, 1);
        sight("by no other cells", true, 0, 49, 17, 9, 32, 9, 1, 9);
    }

    private static void promise06AcrossTheWholeField() {
        sight("flat", true, 0, 255);
        sight("over 17", false, 0, 255, 17, 1);
        sight("over 238", false, 0, 255, 238, 1);
        sight("beside the line", true, 15, 240, 14, 9, 31, 9, 224, 9, 241, 9, 226, 9);
        sight("its first step", false, 15, 240, 30, 1);
        sight("its last step", false, 15, 240, 225, 1);
    }

    private static void promise06CellsGoFrom0To255() {
        for (int wrong : new int[] {-1, 256, LEAST, GREATEST}) {
            Check.leaves("from " + wrong, Check.INDEX, x -> x.sees(wrong, 0));
            Check.leaves("to " + wrong, Check.INDEX, x -> x.sees(255, wrong));
        }
    }
}
