/** The boundaries of promises 22 to 29: what the cases that are seen tell. */
public final class Promise22To29Test {
    private static final int LEAST = Integer.MIN_VALUE;
    private static final int GREATEST = Integer.MAX_VALUE;
    private static final int NONE = GrassField.NONE;

    public static void main(String[] args) {
        Check.runPromises(Promise22To29Test.class);
    }

    /** Guns 0 to 7 with marks 0 to 7 of years 1870 to 1877, the even ones of side 0; all rows are walked. */
    private static GrassField walked() {
        GrassField x = new GrassField();
        for (int i = 0; i < 8; i++) {
            x.gun(i % 2, i, 1870 + i, 0);
        }
        for (int row = 0; row < 16; row++) {
            x.walk(row);
        }
        return x;
    }

    private static GrassField withCases(int... cellsAndMarks) {
        GrassField x = walked();
        for (int i = 0; i < cellsAndMarks.length; i += 2) {
            x.found(cellsAndMarks[i], 0, cellsAndMarks[i + 1]);
        }
        return x;
    }

    // ---- 22: needed

    private static void needed(String what, int due, int... marks) {
        GrassField x = walked();
        for (int mark : marks) {
            x.found(0, 0, mark);
        }
        Check.is(what, x.needed(0, 255), due);
    }

    private static void promise22CellsGoFrom0To255() {
        GrassField x = withCases(0, 1, 255, 2);
        Check.is("cell 0", x.needed(0, 0), 1);
        Check.is("cell 255", x.needed(255, 255), 2);
        for (int wrong : new int[] {-1, 256, LEAST, GREATEST}) {
            Check.leaves("from " + wrong, Check.INDEX, y -> y.needed(wrong, 0));
            Check.leaves("to " + wrong, Check.INDEX, y -> y.needed(0, wrong));
        }
    }

    private static void promise22WithoutCasesNone() {
        needed("no case", 0);
        Check.is("no gun, no case", new GrassField().needed(0, 255), 0);
        GrassField x = withCases(0, 1);
        x.other(1, 5, 0, 1);
        Check.is("an area without cases", x.needed(1, 255), 0);
    }

    private static void promise22ACaseOfNoGunNeedsNone() {
        needed("unknown alone", 0, 0x8000);
        needed("unknown, and one", 1, 0x8000, 1, 0xff00);
        GrassField x = new GrassField();
        x.walk(0);
        x.found(0, 0, 0xffff);
        Check.is("without guns", x.needed(0, 255), 0);
    }

    private static void promise22AllEight() {
        needed("each of its own", 255, 1, 2, 4, 8, 16, 32, 64, 128);
        needed("seven", 127, 1, 2, 4, 8, 16, 32, 64);
        needed("the last one alone", 128, 128, 128);
        needed("any", 1, 255);
    }

    private static void promise22TheFewestAheadOfTheLeastBits() {
        needed("one for both", 128, 1 | 128, 2 | 128);
        needed("two, and not 1, 2 and 4", 1 | 128, 1, 2 | 128, 4 | 128);
        needed("a ring of three", 32 | 64, 32 | 64, 64 | 128, 128 | 32);
    }

    private static void promise22OfSeveralTheLeastBits() {
        needed("1 or 8", 1, 1 | 128);
        needed("2 or 3", 4, 4 | 8);
        needed("0 and 3, or 1 and 2", 6, 1 | 2, 1 | 4, 8 | 2, 8 | 4);
        needed("0 and 2, or others", 5, 1 | 2, 2 | 4, 4 | 8);
        needed("two pairs", 1 | 4, 1 | 2, 4 | 8);
    }

    private static void promise22BothCornersAreIn() {
        GrassField x = withCases(17, 1, 34, 2, 18, 4, 33, 8, 35, 16, 16, 32, 2, 64, 50, 128);
        Check.is("17 to 34", x.needed(17, 34), 15);
        Check.is("34 to 17", x.needed(34, 17), 15);
        Check.is("18 to 33", x.needed(18, 33), 15);
        Check.is("33 to 18", x.needed(33, 18), 15);
        Check.is("16 to 35", x.needed(16, 35), 63);
        Check.is("one row", x.needed(34, 33), 10);
    }

    private static void promise22WhatIsNotSeenNeedsNone() {
        GrassField x = walked();
        x.found(0, 9, 1);
        x.found(1, 8, 2);
        x.machine(8, 0);
        Check.is("8 deep", x.needed(0, 255), 2);
        x.machine(7, 0);
        Check.is("7 deep", x.needed(0, 255), 0);
    }

    private static void promise22TwoGunsOfOneMark() {
        GrassField x = new GrassField();
        x.gun(0, 5, 1870, 0);
        x.gun(0, 5, 1870, 0);
        x.walk(0);
        x.found(0, 0, 1 << 5);
        Check.is("the least of them", x.needed(0, 255), 1);
    }

    /** Guns as walked() has them, and 120 cases in row 0, the last one of gun 7 alone. */
    private static GrassField full() {
        GrassField x = walked();
        for (int i = 0; i < 119; i++) {
            x.found(i % 15, 0, 1);
        }
        x.found(15, 0, 128);
        return x;
    }

    private static void promise22Of120Finds() {
        Check.is("the last one too", full().needed(0, 255), 129);
    }

    // ---- 23: same

    private static void same(String what, int marksA, int marksB, int both, int all) {
        GrassField x = withCases(0, marksA, 1, marksB);
        Check.is(what + ": both", x.same(0, 1, 0), both);
        Check.is(what + ": all", x.same(0, 1, 1), all);
        Check.is(what + ": both, the other way", x.same(1, 0, 0), both);
        Check.is(what + ": all, the other way", x.same(1, 0, 1), all);
    }

    private static void promise23FindsAreThoseThatThereAre() {
        for (int wrong : new int[] {-1, 9, LEAST, GREATEST}) {
            Check.leaves("a " + wrong + " of 9", Check.INDEX, x -> x.same(wrong, 0, 0));
            Check.leaves("b " + wrong + " of 9", Check.INDEX, x -> x.same(0, wrong, 0));
        }
        GrassField none = new GrassField();
        Check.refuses("find 0 of none", Check.INDEX, () -> none.same(0, 0, 0));
    }

    private static void promise23OnlyCases() {
        for (int find : new int[] {1, 5, 6, 8}) {
            Check.leaves("a " + find, Check.ARGUMENT, x -> x.same(find, 0, 0));
            Check.leaves("b " + find, Check.ARGUMENT, x -> x.same(0, find, 0));
            Check.leaves("both " + find, Check.ARGUMENT, x -> x.same(find, find, 1));
        }
    }

    private static void promise23OnlySeenOnes() {
        Check.leaves("a too deep", Check.ARGUMENT, x -> x.same(3, 0, 0));
        Check.leaves("b too deep", Check.ARGUMENT, x -> x.same(0, 3, 0));
        GrassField x = walked();
        x.found(0, 5, 1);
        x.machine(5, 0);
        Check.is("as deep as the machine finds", x.same(0, 0, 0), 1);
        x.machine(4, 0);
        Check.refuses("deeper", Check.ARGUMENT, () -> x.same(0, 0, 0));
    }

    private static void promise23WhatIs0Or1() {
        for (int wrong : new int[] {-1, 2, LEAST, GREATEST}) {
            Check.leaves("what " + wrong, Check.NO_SUCH, x -> x.same(0, 2, wrong));
        }
    }

    private static void promise23OfSeveralWrongOnes() {
        Check.refuses("no find, no case, no what", Check.INDEX, () -> Rich.make().same(1, 9, 2));
        Check.refuses("no find behind no case", Check.INDEX, () -> Rich.make().same(-1, 1, 2));
        Check.refuses("no case, no what", Check.ARGUMENT, () -> Rich.make().same(0, 1, 2));
        Check.refuses("not seen, no what", Check.ARGUMENT, () -> Rich.make().same(3, 0, -1));
        Check.refuses("no what", Check.NO_SUCH, () -> Rich.make().same(0, 0, 2));
    }

    private static void promise23WithItselfAsTwoThatAreAlike() {
        GrassField x = withCases(0, 7, 1, 7, 2, 1);
        Check.is("itself", x.same(0, 0, 0), 3);
        Check.is("itself, all", x.same(0, 0, 1), 9);
        Check.is("two that are alike", x.same(0, 1, 0), 3);
        Check.is("two that are alike, all", x.same(0, 1, 1), 9);
        Check.is("a sure one", x.same(2, 2, 0), 1);
        Check.is("a sure one, all", x.same(2, 2, 1), 1);
    }

    private static void promise23NoneSomeAndAllGuns() {
        same("nothing in common", 3, 12, 0, 4);
        same("one in common", 3, 6, 1, 4);
        same("one in the other", 1, 7, 1, 3);
        same("all eight", 0xffff, 255, 8, 64);
        same("one unknown", 0x8000, 255, 0, 0);
        same("both unknown, of one mark", 0x8000, 0x8000, 0, 0);
    }

    private static void promise23AnUnknownOneWithItself() {
        GrassField x = withCases(0, 0x8000);
        Check.is("how many", x.same(0, 0, 0), 0);
        Check.is("all", x.same(0, 0, 1), 0);
    }

    private static void promise23Of120Finds() {
        Check.is("the last one with itself", full().same(119, 119, 0), 1);
        Check.is("the last two", full().same(118, 119, 0), 0);
        Check.refuses("find 120", Check.INDEX, () -> full().same(119, 120, 0));
    }

    // ---- 24: later

    private static void promise24WhatGoesFrom0To2() {
        for (int wrong : new int[] {-1, 3, LEAST, GREATEST}) {
            Check.leaves("what " + wrong, Check.NO_SUCH, x -> x.later(wrong));
        }
        GrassField x = withCases(0, 128, 0, 0x8000);
        x.other(3, 0, 0, 1999);
        Check.is("what 0", x.later(0), 2);
        Check.is("what 1", x.later(1), 1);
        Check.is("what 2", x.later(2), 1);
    }

    private static void promise24AYearAboveTheDays() {
        GrassField x = walked();
        for (int year : new int[] {1875, 1876, 1877}) {
            x.other(3, 0, 0, year);
        }
        Check.is("above 1876", x.later(0), 1);
        x.day(1875);
        Check.is("above 1875", x.later(0), 2);
        x.day(1874);
        Check.is("above 1874", x.later(0), 3);
        x.day(1877);
        Check.is("above 1877", x.later(0), 0);
        Check.is("none of them is modern", x.later(1), 0);
    }

    private static void promise24GunsMadeBehindTheDay() {
        GrassField x = withCases(0, 8);
        x.day(1873);
        Check.is("made in its year", x.later(1), 0);
        x.day(1872);
        Check.is("made a year behind it", x.later(1), 1);
        Check.is("and later", x.later(0), 1);
    }

    private static void promise24OnlyOfGunsMadeBehindIt() {
        GrassField x = withCases(0, 64 | 128);
        x.day(1875);
        Check.is("both behind it", x.later(1), 1);
        x.day(1876);
        Check.is("one of two", x.later(1), 0);
        x.day(1877);
        Check.is("none", x.later(1), 0);
    }

    private static void promise24OfSomeGun() {
        GrassField x = withCases(0, 0x8000);
        x.day(1800);
        Check.is("unknown is not modern", x.later(1), 0);
        Check.is("nor later", x.later(0), 0);
        Check.is("but unknown", x.later(2), 1);
    }

    private static void promise24UnknownIsOfNoGun() {
        GrassField x = new GrassField();
        x.walk(0);
        x.found(0, 0, 0x8001);
        Check.is("without guns", x.later(2), 1);
        x.gun(0, 1, 1900, 0);
        Check.is("with another gun", x.later(2), 1);
        x.gun(0, 15, 1900, 0);
        Check.is("with its gun", x.later(2), 0);
        Check.is("it is modern then", x.later(1), 1);
    }

    private static void promise24WhatIsNotSeenDoesNotCount() {
        GrassField x = walked();
        x.found(0, 5, 128);
        x.found(0, 5, 0x8000);
        x.other(3, 0, 5, 1999);
        x.machine(5, 0);
        int[] seen = {2, 1, 1};
        for (int what = 0; what < 3; what++) {
            Check.is("seen, what " + what, x.later(what), seen[what]);
        }
        x.machine(4, 0);
        for (int what = 0; what < 3; what++) {
            Check.is("not seen, what " + what, x.later(what), 0);
        }
    }

    private static void promise24OtherKindsAreNeverLater() {
        GrassField x = walked();
        x.other(1, 0, 0, 1);
        x.other(2, 0, 0, 255);
        x.day(1800);
        for (int what = 0; what < 3; what++) {
            Check.is("what " + what, x.later(what), 0);
        }
    }

    private static void promise24Of120Finds() {
        Check.is("the last one alone is modern", full().later(1), 1);
        GrassField x = walked();
        for (int i = 0; i < 119; i++) {
            x.other(3, 0, 0, 1999);
        }
        x.found(0, 0, 0x8000);
        Check.is("119 later ones", x.later(0), 119);
        Check.is("the last one is unknown", x.later(2), 1);
    }

    // ---- 25: way

    /** Cases of gun 0: cell, from, till of each. */
    private static GrassField shot(int... cellFromTill) {
        GrassField x = walked();
        for (int i = 0; i < cellFromTill.length; i += 3) {
            x.when(x.found(cellFromTill[i], 0, 1), cellFromTill[i + 1], cellFromTill[i + 2]);
        }
        return x;
    }

    private static void way(String what, GrassField x, int hands, int end, int first) {
        Check.is(what + ": hands", x.way(0, 0), hands);
        Check.is(what + ": end", x.way(0, 1), end);
        Check.is(what + ": first", x.way(0, 2), first);
    }

    private static void promise25GunsAreThoseThatThereAre() {
        GrassField none = new GrassField();
        Check.refuses("gun 0 of none", Check.INDEX, () -> none.way(0, 0));
        Check.is("gun 7 of 8", walked().way(7, 0), 0);
        for (int wrong : new int[] {-1, 4, LEAST, GREATEST}) {
            Check.leaves("gun " + wrong + " of 4", Check.INDEX, x -> x.way(wrong, 0));
            Check.leaves("gun " + wrong + " of 4, what 3", Check.INDEX, x -> x.way(wrong, 3));
        }
    }

    private static void promise25WhatGoesFrom0To2() {
        way("three of three", shot(0, 7, 9), 1, 7, 0);
        for (int wrong : new int[] {-1, 3, LEAST, GREATEST}) {
            Check.leaves("what " + wrong, Check.NO_SUCH, x -> x.way(0, wrong));
        }
    }

    private static void promise25WithoutCases0AndNone() {
        way("no case", walked(), 0, NONE, NONE);
        GrassField x = withCases(0, 3, 0, 2, 0, 0x8000);
        x.other(1, 0, 0, 0);
        way("none that is sure of this gun", x, 0, NONE, NONE);
        GrassField hidden = walked();
        hidden.found(0, 5, 1);
        hidden.machine(4, 0);
        way("none that is seen", hidden, 0, NONE, NONE);
    }

    private static void promise25OneCase() {
        way("from 0", shot(0, 0, 239), 1, 0, 0);
        way("in minute 239 alone", shot(255, 239, 239), 1, 239, 0);
    }

    private static void promise25InOneCellInOneMinute() {
        way("eight", shot(9, 5, 5, 9, 5, 5, 9, 5, 5, 9, 5, 5, 9, 5, 5, 9, 5, 5, 9, 5, 5, 9, 5, 5), 1, 5, 0);
    }

    private static void promise25InUnlikeCellsNotInOneMinute() {
        way("side by side", shot(9, 5, 5, 10, 5, 5), 2, NONE, NONE);
        way("a minute later", shot(9, 5, 5, 10, 6, 6), 1, 6, 0);
    }

    private static void promise25AsManyMinutesAsFar() {
        way("4 far in 4", shot(0, 0, 0, 4, 4, 4), 1, 4, 0);
        way("4 far in 3", shot(0, 0, 0, 4, 3, 3), 2, NONE, NONE);
        way("15 far across in 15", shot(0, 0, 0, 255, 0, 15), 1, 15, 0);
        way("15 far across in 14", shot(0, 0, 0, 255, 0, 14), 2, NONE, NONE);
        way("4 far down in 4", shot(0, 0, 0, 64, 4, 4), 1, 4, 0);
    }

    private static void promise25OneMoreUpHill() {
        for (int height : new int[] {1, 9}) {
            GrassField x = shot(0, 0, 0, 4, 0, 4);
            x.ground(4, 4, height);
            way("up to " + height + " in 4", x, 2, NONE, NONE);
            x.when(1, 0, 5);
            way("up to " + height + " in 5", x, 1, 5, 0);
        }
    }

    private static void promise25NoMoreOnTheLevelOrDown() {
        GrassField x = shot(0, 0, 0, 4, 0, 4);
        x.ground(0, 255, 7);
        way("on the level", x, 1, 4, 0);
        x.ground(4, 4, 6);
        way("down", x, 1, 4, 0);
        x.ground(2, 2, 9);
        way("down over a hill", x, 1, 4, 0);
    }

    private static void promise25TheEarliestEnd() {
        way("no wait", shot(0, 0, 239, 10, 0, 239), 1, 10, 0);
        way("a wait for the last one", shot(0, 0, 239, 10, 50, 239), 1, 50, 0);
        way("a wait for the first one", shot(0, 20, 239, 10, 0, 239), 1, 20, 1);
        way("by the shorter way round", shot(5, 0, 239, 0, 0, 239, 15, 0, 239), 1, 15, 1);
    }

    private static void promise25InTimeToTheMinute() {
        way("till is in", shot(0, 10, 10, 10, 11, 20), 1, 20, 0);
        way("one beyond till", shot(0, 10, 10, 10, 11, 19), 2, NONE, NONE);
        way("from is in", shot(0, 10, 10, 10, 20, 20), 1, 20, 0);
        way("ahead of both", shot(0, 10, 10, 10, 0, 19), 1, 10, 1);
    }

    private static void promise25FirstIsTheLeastOfSeveral() {
        way("from either end", shot(10, 0, 239, 0, 0, 239), 1, 10, 0);
        way("in one cell", shot(0, 3, 3, 0, 3, 3, 0, 0, 239), 1, 3, 0);
        way("a wait hides the order", shot(5, 100, 100, 6, 0, 239, 7, 0, 239), 1, 100, 1);
        way("the end itself cannot be first", shot(5, 100, 100, 7, 0, 239, 6, 0, 239), 1, 100, 1);
        way("only the second one", shot(5, 9, 9, 0, 0, 4), 1, 9, 1);
    }

    private static void promise25FirstIsANumberOfAFind() {
        GrassField x = walked();
        x.other(1, 0, 0, 0);
        x.found(0, 0, 2);
        x.found(7, 0, 1);
        way("behind two others", x, 1, 0, 2);
    }

    private static void promise25TheFirstEightByNumbers() {
        GrassField x = shot(0, 0, 0, 1, 1, 1, 2, 2, 2, 3, 3, 3, 4, 4, 4, 5, 5, 5, 6, 6, 6, 7, 0, 9);
        way("eight", x, 1, 7, 0);
        x.when(x.found(255, 0, 1), 0, 0);
        way("a ninth does not count", x, 1, 7, 0);
        GrassField eighth = shot(0, 0, 0, 1, 1, 1, 2, 2, 2, 3, 3, 3, 4, 4, 4, 5, 5, 5, 6, 6, 6, 255, 0, 0);
        way("an eighth does", eighth, 2, NONE, NONE);
    }

    private static void promise25TheFirstEightThatAreSeenAndSure() {
        GrassField x = walked();
        x.found(200, 9, 1);
        x.found(0, 0, 3);
        x.machine(8, 0);
        for (int i = 0; i < 7; i++) {
            x.when(x.found(i, 0, 1), i, i);
        }
        x.when(x.found(255, 0, 1), 0, 0);
        way("the eighth of them counts", x, 2, NONE, NONE);
        x.machine(9, 0);
        x.when(0, 100, 239);
        way("it is the ninth now", x, 1, 100, 2);
    }

    private static void promise25TheFewestHands() {
        way("eight at once", shot(0, 0, 0, 2, 0, 0, 4, 0, 0, 6, 0, 0, 8, 0, 0, 10, 0, 0, 12, 0, 0, 14, 0, 0), 8, NONE, NONE);
        way("two who go and one who stays", shot(0, 0, 0, 15, 0, 0, 240, 0, 0, 1, 1, 1, 14, 1, 1), 3, NONE, NONE);
        way("two, by turns", shot(0, 0, 0, 15, 0, 0, 0, 9, 9, 15, 9, 9, 7, 4, 5), 3, NONE, NONE);
        way("two, and one goes round by the middle", shot(0, 0, 0, 15, 0, 0, 0, 14, 14, 15, 9, 9, 7, 7, 7), 2, NONE, NONE);
    }

    private static void promise25EndAndFirstAreNoneWithMoreHands() {
        GrassField x = shot(0, 0, 0, 15, 14, 14);
        way("14 minutes for 15", x, 2, NONE, NONE);
        x.when(1, 14, 15);
        way("15 minutes for 15", x, 1, 15, 0);
    }

    private static void promise25TheFirstOneAloneAndTheOthersByOne() {
        way("the first one apart", shot(0, 0, 0, 15, 0, 0, 14, 1, 1), 2, NONE, NONE);
        way("the last one apart", shot(15, 0, 0, 14, 1, 1, 0, 0, 0), 2, NONE, NONE);
        way("the middle one apart", shot(15, 0, 0, 0, 0, 0, 14, 1, 1), 2, NONE, NONE);
    }

    private static void promise25EachGunAnew() {
        GrassField x = shot(0, 0, 239, 1, 0, 239, 2, 0, 239, 3, 0, 239);
        for (int cell = 8; cell < 14; cell += 2) {
            x.when(x.found(cell, 0, 2), 0, 0);
        }
        way("gun 0", x, 1, 3, 0);
        Check.is("gun 1 behind it", x.way(1, 0), 3);
        Check.is("its end", x.way(1, 1), NONE);
        Check.is("its first", x.way(1, 2), NONE);
        way("gun 0 again", x, 1, 3, 0);
        Check.is("gun 2 without cases", x.way(2, 0), 0);
        Check.is("its end", x.way(2, 1), NONE);
    }

    private static void promise25Of120Finds() {
        GrassField x = full();
        Check.is("the last one", x.way(7, 2), 119);
        Check.is("the first eight", x.way(0, 1), 7);
    }

    // ---- 26: held

    private static GrassField row(int y, int... columns) {
        GrassField x = walked();
        for (int column : columns) {
            x.found(16 * y + column, 0, 1);
        }
        return x;
    }

    private static void held(String what, GrassField x, int y, int off, int steps, int broke) {
        Check.is(what + ": held", x.held(0, y, off, false), steps);
        Check.is(what + ": broke", x.held(0, y, off, true), broke);
    }

    private static void promise26SidesRowsAndNumbers() {
        GrassField x = withCases(0, 1, 2, 1, 240, 2, 255, 2);
        Check.is("side 0, row 0, off 0", x.held(0, 0, 0, false), 1);
        Check.is("side 1, row 15, off 15", x.held(1, 15, 15, false), 1);
        for (int wrong : new int[] {-1, 2, LEAST, GREATEST}) {
            Check.leaves("side " + wrong, Check.INDEX, y -> y.held(wrong, 0, 0, false));
        }
        for (int wrong : new int[] {-1, 16, LEAST, GREATEST}) {
            Check.leaves("row " + wrong, Check.INDEX, y -> y.held(0, wrong, 0, true));
            Check.leaves("off " + wrong, Check.ARGUMENT, y -> y.held(0, 0, wrong, false));
            Check.leaves("off " + wrong + ", broke", Check.ARGUMENT, y -> y.held(0, 0, wrong, true));
        }
    }

    private static void promise26OfSeveralWrongOnes() {
        Check.refuses("side 2, off 16", Check.INDEX, () -> walked().held(2, 0, 16, false));
        Check.refuses("row 16, off -1", Check.INDEX, () -> walked().held(0, 16, -1, true));
    }

    private static void promise26WithoutStepsNothingHolds() {
        held("no case", walked(), 5, 15, 0, NONE);
        held("one case", row(5, 7), 5, 15, 0, NONE);
        held("two in one cell", row(5, 7, 7), 5, 0, 0, NONE);
        held("one step", row(5, 7, 8), 5, 0, 1, NONE);
        held("the longest step", row(5, 0, 15), 5, 0, 1, NONE);
    }

    private static void promise26AboveByThatNumberAtMost() {
        GrassField x = row(5, 0, 1, 4);
        held("1 and 3, off 1", x, 5, 1, 1, 1);
        held("1 and 3, off 2", x, 5, 2, 2, NONE);
        GrassField down = row(5, 0, 3, 4);
        held("3 and 1, off 1", down, 5, 1, 1, NONE);
        held("3 and 1, off 2", down, 5, 2, 2, NONE);
        GrassField wide = row(5, 0, 1, 15);
        held("1 and 14, off 12", wide, 5, 12, 1, 1);
        held("1 and 14, off 13", wide, 5, 13, 2, NONE);
        held("1 and 14, off 15", wide, 5, 15, 2, NONE);
    }

    private static void promise26TheGreatestAboveTheLeastOfThePiece() {
        held("1 2 3 4: not step by step", row(5, 0, 1, 3, 6, 10), 5, 1, 2, NONE);
        held("1 2 3 4, off 2", row(5, 0, 1, 3, 6, 10), 5, 2, 3, NONE);
        held("1 2 3 4, off 3", row(5, 0, 1, 3, 6, 10), 5, 3, 4, NONE);
        held("4 3 2 1", row(5, 0, 4, 7, 9, 10), 5, 1, 2, NONE);
        held("2 1 2 3", row(5, 0, 2, 3, 5, 8), 5, 1, 3, NONE);
    }

    private static void promise26TheLongestPiece() {
        held("at the begin", row(5, 0, 1, 2, 3, 7, 9), 5, 0, 3, 3);
        held("at the end", row(5, 0, 3, 7, 8, 9, 10), 5, 0, 3, 3);
        held("in the middle", row(5, 0, 4, 5, 6, 7, 11, 15), 5, 0, 3, 7);
        held("a whole row", row(5, 0, 1, 2, 3, 4, 5, 6, 7, 8, 9, 10, 11, 12, 13, 14, 15), 5, 0, 15, NONE);
    }

    private static void promise26BrokeIsTheXAheadOfTheFirstSuchStep() {
        held("the second step", row(5, 2, 3, 5), 5, 0, 1, 3);
        held("the first of two", row(5, 2, 3, 5, 6, 10), 5, 0, 1, 3);
        held("the second of two, by more", row(5, 2, 3, 5, 6, 10), 5, 2, 3, 6);
        held("neither", row(5, 2, 3, 5, 6, 10), 5, 3, 4, NONE);
        held("the first step is none", row(5, 0, 9, 10), 5, 0, 1, NONE);
        held("the x ahead is 0", row(5, 0, 1, 3), 5, 15, 2, NONE);
        held("the last step", row(5, 11, 12, 13, 15), 5, 0, 2, 13);
    }

    private static void promise26EachXOnceInOrder() {
        held("come in any order, more than once", row(5, 8, 2, 4, 2, 6, 4), 5, 0, 3, NONE);
    }

    private static void promise26OfSureCasesOfTheSideInTheRow() {
        GrassField x = row(5, 0, 2, 4);
        x.found(80 + 1, 0, 2);
        x.found(80 + 3, 0, 1 | 4);
        x.found(80 + 5, 0, 0x8000);
        x.found(96, 0, 1);
        x.found(79, 0, 1);
        held("of side 0", x, 5, 0, 2, NONE);
        x.found(80 + 9, 0, 4);
        held("of another gun of side 0", x, 5, 0, 2, 4);
        Check.is("of side 1", x.held(1, 5, 0, false), 0);
    }

    private static void promise26OfCasesThatAreSeen() {
        GrassField x = row(5, 0, 2);
        x.found(84, 9, 1);
        held("9 deep", x, 5, 0, 2, NONE);
        x.machine(8, 0);
        held("8 deep", x, 5, 0, 1, NONE);
    }

    private static void promise26Of120Finds() {
        GrassField x = full();
        Check.is("x 0 to 14", x.held(0, 0, 0, false), 14);
        Check.is("of side 1 the last one alone", x.held(1, 0, 0, false), 0);
        Check.is("no break", x.held(0, 0, 0, true), NONE);
    }

    // ---- 27: heaps

    private static void promise27NumbersGoFrom1To99() {
        GrassField x = new GrassField();
        x.walk(0);
        for (int i = 0; i < 98; i++) {
            x.found(3, 0, 1);
        }
        x.found(1, 0, 1);
        Check.is("1", x.heaps(1, false), 2);
        Check.is("2", x.heaps(2, false), 1);
        Check.is("98", x.heaps(98, false), 1);
        Check.is("99 of 98", x.heaps(99, false), 0);
        Check.is("the first with 99 of 98", x.heaps(99, true), NONE);
        x.found(3, 0, 1);
        Check.is("99 of 99", x.heaps(99, false), 1);
        Check.is("the first with 99", x.heaps(99, true), 3);
        for (int wrong : new int[] {0, -1, 100, LEAST, GREATEST}) {
            Check.leaves("heaps(" + wrong + ", false)", Check.ARGUMENT, y -> y.heaps(wrong, false));
            Check.leaves("heaps(" + wrong + ", true)", Check.ARGUMENT, y -> y.heaps(wrong, true));
        }
    }

    private static void promise27AtLeastAsMany() {
        GrassField x = withCases(9, 1, 9, 1, 9, 1);
        Check.is("2 of 3", x.heaps(2, false), 1);
        Check.is("3 of 3", x.heaps(3, false), 1);
        Check.is("4 of 3", x.heaps(4, false), 0);
        Check.is("none is the first", x.heaps(4, true), NONE);
    }

    private static void promise27TheFirstCellAndTheLast() {
        GrassField x = withCases(255, 1);
        Check.is("cell 255", x.heaps(1, true), 255);
        x.found(254, 0, 1);
        Check.is("cell 254 is ahead of it", x.heaps(1, true), 254);
        x.found(0, 0, 1);
        Check.is("cell 0 is ahead of all", x.heaps(1, true), 0);
        Check.is("three cells", x.heaps(1, false), 3);
    }

    private static void promise27OnlySeenCasesOfAnyGun() {
        GrassField x = withCases(9, 1, 9, 0x8000, 9, 3);
        x.found(9, 5, 1);
        x.other(1, 9, 0, 1);
        x.other(2, 9, 0, 1);
        x.other(3, 9, 0, 1900);
        Check.is("four cases", x.heaps(4, false), 1);
        Check.is("no fifth", x.heaps(5, false), 0);
        x.machine(4, 0);
        Check.is("one is not seen", x.heaps(4, false), 0);
        Check.is("three are", x.heaps(3, false), 1);
    }

    private static void promise27TheFirstOfCasesAlone() {
        GrassField x = walked();
        x.other(1, 3, 0, 1);
        x.other(2, 4, 0, 1);
        x.other(3, 5, 0, 1900);
        Check.is("no case", x.heaps(1, true), NONE);
        x.found(9, 0, 1);
        Check.is("one case", x.heaps(1, true), 9);
    }

    private static void promise27Of120Finds() {
        GrassField x = full();
        Check.is("16 cells", x.heaps(1, false), 16);
        Check.is("15 cells with 7", x.heaps(7, false), 15);
        Check.is("14 cells with 8", x.heaps(8, false), 14);
        GrassField y = walked();
        for (int i = 0; i < 120; i++) {
            y.found(200, 0, 1);
        }
        Check.is("120 in one cell", y.heaps(99, true), 200);
    }

    // ---- 28: length

    private static void length(String what, int cases, int least, int greatest, int atLeast, int atMost) {
        GrassField x = walked();
        for (int i = 0; i < cases; i++) {
            x.found(i, 0, 1);
        }
        Check.is(what + ": at least", x.length(0, least, greatest, false), atLeast);
        Check.is(what + ": at most", x.length(0, least, greatest, true), atMost);
    }

    private static void promise28SidesAre0And1() {
        GrassField x = withCases(0, 1, 0, 2, 0, 2);
        Check.is("side 0", x.length(0, 1, 1, true), 1);
        Check.is("side 1", x.length(1, 1, 1, true), 2);
        for (int wrong : new int[] {-1, 2, LEAST, GREATEST}) {
            Check.leaves("side " + wrong, Check.INDEX, y -> y.length(wrong, 1, 1, true));
            Check.leaves("side " + wrong + ", 0 times", Check.INDEX, y -> y.length(wrong, 0, 10, false));
        }
    }

    private static void promise28TimesGoFrom1To9() {
        length("1 to 9", 9, 1, 9, 1, 9);
        length("1 to 1", 9, 1, 1, 9, 9);
        length("9 to 9", 9, 9, 9, 1, 1);
        int[][] wrong = {{0, 1}, {0, 0}, {-1, 5}, {1, 10}, {10, 10}, {9, 10}, {2, 1}, {9, 8}, {1, 0}, {LEAST, 9}, {1, GREATEST},
            {GREATEST, LEAST}};
        for (int[] times : wrong) {
            Check.leaves("length(0, " + times[0] + ", " + times[1] + ", true)", Check.ARGUMENT,
                x -> x.length(0, times[0], times[1], true));
            Check.leaves("length(0, " + times[0] + ", " + times[1] + ", false)", Check.ARGUMENT,
                x -> x.length(0, times[0], times[1], false));
        }
    }

    private static void promise28WithoutCasesNoMinutes() {
        length("no case", 0, 1, 9, 0, 0);
        Check.is("no gun", new GrassField().length(1, 1, 1, true), 0);
    }

    private static void promise28RoundedUp() {
        length("one", 1, 2, 9, 1, 1);
        length("nine by 9, nine by 3", 9, 3, 9, 1, 3);
        length("ten by 9, ten by 3", 10, 3, 9, 2, 4);
        length("eight by 9, eight by 3", 8, 3, 9, 1, 3);
        length("all 120", 120, 1, 9, 14, 120);
    }

    private static void promise28OfAllGunsTheMost() {
        GrassField x = withCases(0, 1, 0, 4, 0, 4, 0, 4, 0, 16, 0, 16);
        Check.is("gun 2", x.length(0, 1, 2, true), 3);
        Check.is("by two", x.length(0, 1, 2, false), 2);
    }

    private static void promise28SureCasesAloneAndAllOfThem() {
        GrassField x = walked();
        for (int i = 0; i < 9; i++) {
            x.found(0, i, 1);
        }
        x.found(0, 0, 5);
        x.found(0, 0, 0x8000);
        Check.is("nine, not the first eight alone", x.length(0, 1, 1, true), 9);
        x.machine(7, 0);
        Check.is("those that are seen", x.length(0, 1, 1, true), 8);
    }

    private static void promise28Of120Finds() {
        Check.is("gun 0", full().length(0, 1, 1, true), 119);
        Check.is("gun 7", full().length(1, 1, 1, true), 1);
    }

    // ---- 29: still

    private static void promise29CellsGoFrom0To255() {
        GrassField x = new GrassField();
        x.found(20, 0, 1);
        x.walk(1);
        Check.is("cell 0", x.still(0, 0), 1);
        Check.is("cell 255", x.still(255, 255), 1);
        Check.is("all", x.still(0, 255), 240);
        for (int wrong : new int[] {-1, 256, LEAST, GREATEST}) {
            Check.leaves("from " + wrong, Check.INDEX, y -> y.still(wrong, 0));
            Check.leaves("to " + wrong, Check.INDEX, y -> y.still(255, wrong));
        }
    }

    private static void promise29NothingSeenNothingStill() {
        GrassField x = new GrassField();
        x.found(0, 0, 1);
        Check.is("nothing is walked", x.still(0, 255), 0);
        x.walk(5);
        Check.is("nothing is seen", x.still(0, 255), 0);
    }

    private static void promise29AllIsWalked() {
        GrassField x = withCases(0, 1);
        Check.is("no row is left", x.still(0, 255), 0);
    }

    private static void promise29RowsAsNearAsTheMachineIsWide() {
        GrassField x = new GrassField();
        x.found(16 * 8, 0, 1);
        x.walk(8);
        for (int wide = 0; wide < 4; wide++) {
            x.machine(9, wide);
            Check.is(wide + " wide: that near", x.still(16 * (8 - wide), 16 * (8 + wide)), 0);
            Check.is(wide + " wide: one farther up", x.still(16 * (7 - wide), 16 * 8), 1);
            Check.is(wide + " wide: one farther down", x.still(16 * (9 + wide), 16 * 8), 1);
            Check.is(wide + " wide: all", x.still(0, 255), 16 * (15 - 2 * wide));
        }
    }

    private static void promise29AsManyAsTheCellWithMost() {
        GrassField x = new GrassField();
        x.walk(0);
        x.found(3, 0, 1);
        Check.is("one", x.still(16, 17), 2);
        x.other(1, 3, 0, 1);
        x.other(2, 3, 0, 1);
        x.other(3, 3, 9, 1900);
        Check.is("four of all kinds", x.still(16, 17), 8);
        x.found(4, 0, 1);
        Check.is("another cell has fewer", x.still(16, 17), 8);
        x.machine(8, 0);
        Check.is("three that are seen", x.still(16, 17), 6);
    }

    private static void promise29TheCellWithMostIsOfTheFieldNotOfTheArea() {
        GrassField x = new GrassField();
        x.walk(0);
        x.walk(15);
        x.found(255, 0, 1);
        x.found(255, 0, 1);
        Check.is("far from it", x.still(0, 31), 32);
        Check.is("what is not seen counts nothing", hiddenHeap().still(0, 31), 16);
    }

    private static GrassField hiddenHeap() {
        GrassField x = new GrassField();
        x.walk(0);
        x.found(0, 0, 1);
        x.found(255, 0, 1);
        x.found(255, 0, 1);
        return x;
    }

    private static void promise29BothCornersAreIn() {
        GrassField x = new GrassField();
        x.walk(0);
        x.found(0, 0, 1);
        Check.is("one cell", x.still(100, 100), 1);
        Check.is("2 by 3", x.still(50, 17), 6);
        Check.is("3 by 2, from the right", x.still(19, 33), 6);
        Check.is("half of it walked", x.still(1, 18), 2);
    }

    private static void promise29TheMost() {
        GrassField x = new GrassField();
        x.walk(7);
        for (int i = 0; i < 120; i++) {
            x.found(112, 0, 1);
        }
        Check.is("120 in each of 240 cells", x.still(0, 255), 28800);
    }
}
