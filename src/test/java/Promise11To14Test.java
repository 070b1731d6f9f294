/** The boundaries of promises 11 to 14: people, what is seen of them, the seed, and the minutes that go. */
public final class Promise11To14Test {
    private static final int LEAST = Integer.MIN_VALUE;
    private static final int GREATEST = Integer.MAX_VALUE;
    private static final int NONE = GrassField.NONE;

    public static void main(String[] args) {
        Check.runPromises(Promise11To14Test.class);
    }

    /** Eight guns of marks 0 to 7: the even ones of side 0, the odd ones of side 1, all with these rounds. */
    private static GrassField armed(int rounds) {
        GrassField x = new GrassField();
        for (int i = 0; i < 8; i++) {
            x.gun(i % 2, i, 1870, rounds);
        }
        return x;
    }

    // ---- 11: person

    private static void promise11GunsAreThoseThatThereAre() {
        GrassField none = new GrassField();
        Check.refuses("gun 0 of none", Check.INDEX, () -> none.person(0, 0, 0, NONE));
        GrassField x = armed(1);
        Check.is("gun 0", x.person(0, 0, 0, NONE), 0);
        Check.is("gun 7", x.person(7, 0, 0, NONE), 1);
        for (int wrong : new int[] {-1, 4, LEAST, GREATEST}) {
            Check.leaves("gun " + wrong + " of 4", Check.INDEX, y -> y.person(wrong, 0, 0, NONE));
        }
    }

    private static void promise11CellsGoFrom0To255() {
        GrassField x = armed(1);
        x.person(0, 0, 0, NONE);
        x.person(1, 255, 0, NONE);
        Check.is("cell 0", x.look(0, 1), 0);
        Check.is("cell 255", x.look(1, 1), 255);
        for (int wrong : new int[] {-1, 256, LEAST, GREATEST}) {
            Check.leaves("cell " + wrong, Check.INDEX, y -> y.person(3, wrong, 0, NONE));
        }
    }

    private static void promise11FearGoesFrom0To9() {
        GrassField x = armed(1);
        x.person(0, 0, 0, NONE);
        x.person(1, 255, 9, NONE);
        Check.is("fear 0", x.look(0, 2), 0);
        Check.is("fear 9", x.look(1, 2), 9);
        for (int wrong : new int[] {-1, 10, LEAST, GREATEST}) {
            Check.leaves("fear " + wrong, Check.ARGUMENT, y -> y.person(3, 0, wrong, NONE));
        }
    }

    private static void promise11LawsAreThoseThatThereAreAndNone() {
        GrassField x = armed(1);
        Check.refuses("law 0 of none", Check.INDEX, () -> x.person(0, 0, 0, 0));
        Check.is("no law", x.person(0, 0, 0, NONE), 0);
        Check.law(x, "hold");
        Check.is("law 0", x.person(1, 0, 0, 0), 1);
        Check.refuses("law 1 of one", Check.INDEX, () -> x.person(2, 0, 0, 1));
        for (int wrong : new int[] {-2, 2, LEAST, GREATEST}) {
            Check.leaves("law " + wrong + " of 2", Check.INDEX, y -> y.person(3, 0, 0, wrong));
        }
    }

    private static void promise11WithoutALawOneHolds() {
        GrassField x = armed(9);
        Check.law(x, "drop");
        x.person(0, 17, 5, NONE);
        x.person(1, 21, 5, NONE);
        x.run(2);
        Check.is("fear", x.look(0, 2), 3);
        Check.is("cell", x.look(0, 1), 17);
        Check.is("gun", x.look(0, 0), 0);
        Check.is("nothing lies there", x.count(4), 0);
    }

    private static void promise11OneGunHasOnePerson() {
        Check.leaves("a gun that one has", Check.ARGUMENT, x -> x.person(0, 50, 5, NONE));
        Check.leaves("another one", Check.ARGUMENT, x -> x.person(2, 50, 5, NONE));
        GrassField free = Rich.make();
        Check.is("one that nobody has", free.person(3, 50, 5, NONE), 3);
    }

    private static void promise11WhoFellHasTheGunStill() {
        GrassField x = armed(1);
        x.person(0, 0, 0, Check.law(x, "shoot"));
        x.person(1, 0, 0, NONE);
        x.run(1);
        Check.is("one fell", x.look(1, 3), 0);
        Check.is("its gun", x.look(1, 0), 1);
        Check.refuses("another one with it", Check.ARGUMENT, () -> x.person(1, 0, 0, NONE));
    }

    private static void promise11AGunThatWasDroppedIsFree() {
        GrassField x = armed(1);
        x.person(0, 0, 0, Check.law(x, "drop"));
        Check.refuses("ahead of that", Check.ARGUMENT, () -> x.person(0, 0, 0, NONE));
        x.run(1);
        Check.is("another one with it", x.person(0, 0, 0, NONE), 1);
        Check.refuses("a third one", Check.ARGUMENT, () -> x.person(0, 0, 0, NONE));
    }

    private static GrassField eightPeople() {
        GrassField x = armed(1);
        Check.law(x, "drop");
        for (int i = 0; i < 8; i++) {
            x.person(i, 2 * i, 5, i == 0 ? 0 : NONE);
        }
        x.run(1);
        return x;
    }

    private static void promise11NumbersGoFrom0To7() {
        GrassField x = armed(1);
        for (int i = 0; i < 8; i++) {
            Check.is("person", x.person(7 - i, 0, 0, NONE), i);
            Check.is("people", x.count(1), i + 1);
        }
    }

    private static void promise11ANinthIsRefused() {
        Check.leaves("a 9th person, with the free gun", Check.FULL, Promise11To14Test::eightPeople,
            x -> x.person(0, 9, 9, 0));
    }

    private static void promise11OfSeveralWrongOnes() {
        GrassField x = eightPeople();
        Check.refuses("a wrong gun and fear", Check.INDEX, () -> x.person(8, 0, 10, NONE));
        Check.refuses("a wrong cell and fear", Check.INDEX, () -> x.person(0, 256, 10, NONE));
        Check.refuses("a wrong law and fear", Check.INDEX, () -> x.person(0, 0, 10, 1));
        Check.refuses("a wrong law and a gun that one has", Check.INDEX, () -> x.person(1, 0, 0, 1));
        Check.refuses("wrong fear and no room", Check.ARGUMENT, () -> x.person(0, 0, 10, NONE));
        Check.refuses("a gun that one has and no room", Check.ARGUMENT, () -> x.person(1, 0, 0, NONE));
    }

    private static void promise11SideIsThatOfTheGun() {
        GrassField x = armed(1);
        Check.law(x, "drop");
        x.person(2, 0, 0, 0);
        x.person(3, 0, 0, 0);
        Check.is("side of an even one", x.look(0, 4), 0);
        Check.is("side of an odd one", x.look(1, 4), 1);
        x.run(1);
        Check.is("without a gun as it began", x.look(0, 4), 0);
        Check.is("without a gun as it began", x.look(1, 4), 1);
    }

    // ---- 12: look

    private static void promise12PeopleAreThoseThatThereAre() {
        GrassField none = new GrassField();
        Check.refuses("person 0 of none", Check.INDEX, () -> none.look(0, 0));
        for (int wrong : new int[] {-1, 3, LEAST, GREATEST}) {
            Check.leaves("person " + wrong + " of 3", Check.INDEX, x -> x.look(wrong, 0));
        }
        Check.takes("person 2 of 3", () -> Rich.make().look(2, 0));
    }

    private static void promise12WhatGoesFrom0To7() {
        GrassField x = armed(1);
        Check.law(x, "hold");
        Check.law(x, "flee");
        x.person(4, 20, 7, 1);
        x.person(5, 22, 0, NONE);
        int[] due = {4, 20, 7, 1, 0, 1, 1, 0};
        for (int what = 0; what < 8; what++) {
            Check.is("what " + what, x.look(0, what), due[what]);
        }
        for (int wrong : new int[] {-1, 8, LEAST, GREATEST}) {
            Check.leaves("what " + wrong, Check.NO_SUCH, y -> y.look(0, wrong));
        }
    }

    private static void promise12AWrongPersonIsToldAheadOfAWrongWhat() {
        Check.refuses("person 3, what 8", Check.INDEX, () -> Rich.make().look(3, 8));
        Check.refuses("person -1, what -1", Check.INDEX, () -> Rich.make().look(-1, -1));
    }

    private static void promise12WithoutAGunOrALaw() {
        GrassField x = armed(1);
        x.person(0, 0, 0, Check.law(x, "drop"));
        x.person(1, 9, 0, NONE);
        x.run(1);
        Check.is("no gun", x.look(0, 0), NONE);
        Check.is("law 0", x.look(0, 5), 0);
        Check.is("gun 1", x.look(1, 0), 1);
        Check.is("no law", x.look(1, 5), NONE);
    }

    private static void near(String what, int kind, int due, int... cells) {
        for (int cell : cells) {
            GrassField x = armed(1);
            x.person(0, 136, 0, NONE);
            x.person(kind == 6 ? 1 : 2, cell, 0, NONE);
            Check.is(what + ", in cell " + cell, x.look(0, kind), due);
            Check.is(what + ", seen from there", x.look(1, kind), due);
        }
    }

    private static void promise12FoesCountUpTo3Far() {
        near("a foe in the same cell", 6, 1, 136);
        near("a foe 3 far", 6, 1, 136 + 3, 136 - 3, 136 + 48, 136 - 48, 136 - 51, 136 + 51);
        near("a foe 4 far", 6, 0, 136 + 4, 136 - 4, 136 + 64, 136 - 64, 136 + 65, 92);
        near("a friend is no foe", 7, 1, 137);
    }

    private static void promise12FriendsCountUpTo2Far() {
        near("a friend in the same cell", 7, 1, 136);
        near("a friend 2 far", 7, 1, 136 + 2, 136 - 2, 136 + 32, 136 - 32, 136 - 34, 136 + 34);
        near("a friend 3 far", 7, 0, 136 + 3, 136 - 3, 136 + 48, 136 - 48, 136 + 49);
    }

    private static void promise12RowsDoNotMeet() {
        GrassField x = armed(1);
        x.person(0, 15, 0, NONE);
        x.person(1, 16, 0, NONE);
        x.person(2, 16, 0, NONE);
        Check.is("foes", x.look(0, 6), 0);
        Check.is("friends", x.look(0, 7), 0);
    }

    private static void promise12NobodyIsItsOwnFriend() {
        GrassField x = armed(1);
        x.person(0, 0, 0, NONE);
        Check.is("friends of one alone", x.look(0, 7), 0);
        Check.is("foes of one alone", x.look(0, 6), 0);
        for (int i = 1; i < 8; i++) {
            x.person(i, 0, 0, NONE);
        }
        Check.is("friends of one of eight", x.look(0, 7), 3);
        Check.is("foes of one of eight", x.look(0, 6), 4);
    }

    private static void promise12WhoFellIsNeitherFoeNorFriend() {
        GrassField x = armed(1);
        x.person(0, 0, 0, Check.law(x, "shoot"));
        x.person(1, 0, 5, NONE);
        x.person(3, 0, 5, NONE);
        Check.is("two foes", x.look(0, 6), 2);
        x.run(1);
        Check.is("one fell", x.look(1, 3), 0);
        Check.is("and lies there", x.look(1, 1), 0);
        Check.is("one foe is left", x.look(0, 6), 1);
        Check.is("the other one has no friend", x.look(2, 7), 0);
        Check.is("one is living", x.look(2, 3), 1);
        Check.is("and one", x.look(0, 3), 1);
    }

    // ---- 13: seed, and the draws from it

    private static int drawFrom(int seed) {
        long next = (1103515245L * seed + 12345L) & 0xffffffffL;
        return (int) (next >> 16 & 0x7fff);
    }

    private static boolean falls(int seed, int far) {
        GrassField x = armed(1);
        x.person(0, 0, 0, Check.law(x, "shoot"));
        x.person(1, far, 0, NONE);
        x.seed(seed);
        x.run(1);
        return x.count(2) == 1;
    }

    private static void promise13ASeedIsAnyInt() {
        for (int seed : new int[] {0, 1, 2, 3, 5, 8, 13, 42, 77, 1000, -1, -2, -77, LEAST, LEAST + 1, GREATEST, GREATEST - 1, 1 << 30, 123456789}) {
            int draw = drawFrom(seed) % 12;
            for (int far = Math.max(0, 8 - draw); far < 12; far++) {
                Check.is("seed " + seed + ", " + far + " far", falls(seed, far) ? 1 : 0, draw < 10 - far ? 1 : 0);
            }
        }
    }

    private static void promise13TheHighestBitIsNoneOfTheDraw() {
        int seed = 0;
        while (1103515245 * seed + 12345 >= 0 || ((1103515245 * seed + 12345) >>> 16) % 12 < 10 == drawFrom(seed) % 12 < 10) {
            seed++;
        }
        Check.is("seed " + seed, falls(seed, 0) ? 1 : 0, drawFrom(seed) % 12 < 10 ? 1 : 0);
    }

    private static void promise13SeedsGoRound() {
        int seed = GREATEST;
        GrassField x = armed(40);
        x.person(0, 0, 0, Check.law(x, "shoot"));
        x.person(1, 9, 0, NONE);
        x.seed(seed);
        boolean fell = false;
        for (int minute = 1; minute <= 40 && !fell; minute++) {
            fell = drawFrom(seed) % 12 < 1;
            seed = (int) (1103515245L * seed + 12345L);
            x.run(1);
            Check.is("living behind minute " + minute, x.count(2), fell ? 1 : 2);
        }
        Check.yes("someone fell", fell);
    }

    private static void promise13ANewSeedBeginsAnew() {
        GrassField x = armed(40);
        x.person(0, 0, 0, Check.law(x, "shoot"));
        x.person(1, 10, 0, NONE);
        x.run(7);
        x.seed(0);
        x.person(3, 9, 0, NONE);
        x.run(1);
        Check.is("the first draw from 0 falls 9 far", x.look(2, 3), 0);
    }

    // ---- 14: run

    private static void promise14FromOneTo60Minutes() {
        GrassField x = new GrassField();
        Check.is("run(1)", x.run(1), 1);
        Check.is("run(60)", x.run(60), 61);
        for (int wrong : new int[] {0, -1, 61, LEAST, GREATEST}) {
            Check.leaves("run(" + wrong + ")", Check.ARGUMENT, y -> y.run(wrong));
        }
    }

    private static GrassField late(int minute) {
        GrassField x = Rich.make();
        for (int gone = 3; gone < minute; gone = x.count(6)) {
            x.run(Math.min(59, minute - gone));
        }
        return x;
    }

    private static void promise14Until239HaveGone() {
        GrassField x = late(179);
        Check.is("run(60)", x.run(60), 239);
        Check.refuses("one more", Check.ARGUMENT, () -> x.run(1));
        Check.is("minutes gone", x.count(6), 239);
        Check.is("the last one alone", late(238).run(1), 239);
    }

    private static void promise14MoreThan239AreRefused() {
        Check.leaves("60 behind 180", Check.ARGUMENT, () -> late(180), x -> x.run(60));
        Check.leaves("2 behind 238", Check.ARGUMENT, () -> late(238), x -> x.run(2));
        Check.leaves("1 behind 239", Check.ARGUMENT, () -> late(239), x -> x.run(1));
        Check.leaves("none behind 239", Check.ARGUMENT, () -> late(239), x -> x.run(0));
        Check.leaves("the greatest int behind 239", Check.ARGUMENT, () -> late(239), x -> x.run(GREATEST));
    }

    /** One of side 0 with a fear under "drop", which leaves fear alone; foes and friends in the same cell, who hold. */
    private static int fearAmong(int fear, int foes, int friends) {
        GrassField x = armed(1);
        x.person(0, 0, fear, Check.law(x, "drop"));
        for (int i = 0; i < foes; i++) {
            x.person(2 * i + 1, 0, 0, NONE);
        }
        for (int i = 0; i < friends; i++) {
            x.person(2 * i + 2, 0, 0, NONE);
        }
        x.run(1);
        return x.look(0, 2);
    }

    private static void promise14FearIs9AtMost() {
        Check.is("8 and 1", fearAmong(8, 1, 0), 9);
        Check.is("9 and 1", fearAmong(9, 1, 0), 9);
        Check.is("7 and 4", fearAmong(7, 4, 0), 9);
        Check.is("9, 3 more and 2 less, together", fearAmong(9, 3, 2), 9);
    }

    private static void promise14FearIs0AtLeast() {
        Check.is("1 less 1", fearAmong(1, 0, 1), 0);
        Check.is("0 less 1", fearAmong(0, 0, 1), 0);
        Check.is("1 less 3", fearAmong(1, 0, 3), 0);
        Check.is("0, 2 less and 1 more, together", fearAmong(0, 1, 2), 0);
    }

    private static void promise14FearGoesByFoesAndFriends() {
        Check.is("among nobody", fearAmong(5, 0, 0), 5);
        Check.is("among as many", fearAmong(5, 2, 2), 5);
        Check.is("among foes", fearAmong(5, 2, 0), 7);
        Check.is("among friends", fearAmong(5, 0, 2), 3);
    }

    private static void promise14HoldingLeavesFear0AtLeast() {
        GrassField x = armed(1);
        Check.law(x, "hold");
        x.person(0, 0, 0, 0);
        x.person(1, 15, 1, 0);
        x.person(2, 255, 2, NONE);
        x.run(1);
        Check.is("of 0", x.look(0, 2), 0);
        Check.is("of 1", x.look(1, 2), 0);
        Check.is("of 2", x.look(2, 2), 1);
    }

    private static void promise14EachOneGoesBehindTheOneAhead() {
        GrassField x = armed(1);
        Check.law(x, "flee");
        Check.law(x, "drop");
        x.person(0, 3, 0, 0);
        x.person(1, 0, 5, 1);
        x.run(1);
        Check.is("the first one has gone 4 far", x.look(0, 1), 4);
        Check.is("and is no foe of the second one", x.look(1, 2), 5);
    }

    private static void promise14TheFirstLineThatHolds() {
        Check.is("the first of two", gunUnder("drop;hold"), NONE);
        Check.is("the second of two", gunUnder("hold;drop"), 0);
        Check.is("the last one", gunUnder("hold if 1<0;hold if 1>2;drop"), NONE);
        Check.is("none: it holds", gunUnder("drop if 1<0"), 0);
    }

    private static int gunUnder(String law) {
        GrassField x = armed(1);
        x.person(0, 0, 5, Check.law(x, law));
        x.run(1);
        return x.look(0, 0);
    }

    private static void promise14IfNoLineHoldsItHolds() {
        GrassField x = armed(1);
        x.person(0, 0, 5, Check.law(x, "flee if 1<0;shoot if 1<0"));
        x.run(1);
        Check.is("fear", x.look(0, 2), 4);
    }

    /** Rounds of gun 0, the fear of who has it, finds. */
    private static void shot(String what, GrassField x, int rounds, int fear, int finds) {
        int before = x.count(11);
        int left = before - rounds;
        x.run(1);
        Check.is(what + ": rounds", x.count(11) - left, finds > 0 ? rounds - 1 : rounds);
        Check.is(what + ": fear", x.look(0, 2), fear);
        Check.is(what + ": finds", x.count(4), finds);
    }

    private static void promise14TheLastRoundIsShot() {
        GrassField x = armed(1);
        x.person(0, 0, 5, Check.law(x, "shoot"));
        x.person(1, 12, 0, NONE);
        shot("one round", x, 1, 5, 2);
        x.run(1);
        Check.is("then it holds", x.look(0, 2), 4);
        Check.is("and nothing more lies there", x.count(4), 2);
    }

    private static void promise14WithoutRoundsItHolds() {
        GrassField x = armed(0);
        x.person(0, 0, 5, Check.law(x, "shoot;drop"));
        x.person(1, 12, 0, NONE);
        shot("no round", x, 0, 4, 0);
        Check.is("the next line is not asked", x.look(0, 0), 0);
    }

    private static void promise14WithoutAGunItHolds() {
        GrassField x = armed(3);
        x.person(0, 0, 5, Check.law(x, "drop if minute < 2;shoot"));
        x.person(1, 12, 0, NONE);
        x.run(1);
        Check.is("drop leaves fear", x.look(0, 2), 5);
        x.run(1);
        Check.is("then it holds", x.look(0, 2), 4);
        Check.is("nothing lies there", x.count(4), 0);
    }

    private static void promise14WithoutAFoeItHolds() {
        GrassField x = armed(3);
        x.person(0, 0, 5, Check.law(x, "shoot"));
        x.person(2, 12, 0, NONE);
        shot("friends alone", x, 3, 4, 0);
    }

    private static void promise14AFoeWhoFellIsNone() {
        GrassField x = armed(3);
        x.person(0, 0, 5, Check.law(x, "shoot"));
        x.person(1, 9, 0, NONE);
        shot("the draw of seed 0 falls 9 far", x, 3, 5, 3);
        x.run(1);
        Check.is("then it holds", x.look(0, 2), 4);
        Check.is("and nothing more lies there", x.count(4), 3);
    }

    private static void promise14AtTheNearestFoeOfSeveralTheLeast() {
        GrassField x = armed(1);
        x.person(0, 100, 0, Check.law(x, "shoot"));
        x.person(1, 103, 0, NONE);
        x.person(3, 98, 0, NONE);
        x.person(5, 102, 0, NONE);
        x.run(1);
        Check.is("the ball lies at the least of two that are 2 far", x.about(1, 1), 98);
        Check.is("who falls", x.look(2, 3), 0);
        Check.is("bones of person 2", x.about(2, 3), 4);
    }

    private static void promise14BelowTenLessFarItFalls() {
        for (int far = 0; far <= 15; far++) {
            int seed = 0;
            while (drawFrom(seed) % 12 != Math.max(0, 10 - far)) {
                seed++;
            }
            Check.no(far + " far, as much as 10 less it", falls(seed, far));
            while (drawFrom(seed) % 12 != Math.max(0, 9 - far)) {
                seed++;
            }
            Check.is(far + " far, one below", falls(seed, far) ? 1 : 0, far < 10 ? 1 : 0);
        }
    }

    private static void promise14WhatIsLeft() {
        GrassField x = armed(2);
        x.run(4);
        x.person(3, 17, 0, Check.law(x, "shoot"));
        x.person(2, 20, 0, NONE);
        x.seed(0);
        x.run(1);
        int[][] due = {{0, 17, 5, 8, 0, 8, 0, 239}, {1, 20, 5, 1, 0, 0, 0, 239}, {2, 20, 5, 2, 0, 0, 0, 239}};
        Check.is("finds", x.count(4), 3);
        for (int f = 0; f < 3; f++) {
            for (int what = 0; what < 8; what++) {
                Check.is("about(" + f + ", " + what + ")", x.about(f, what), due[f][what]);
            }
        }
    }

    private static void promise14DepthIsTheMinuteModulo10() {
        GrassField x = armed(40);
        x.person(0, 0, 0, Check.law(x, "shoot"));
        x.person(1, 15, 0, NONE);
        x.run(21);
        for (int minute : new int[] {1, 8, 9, 10, 11, 19, 20, 21}) {
            Check.is("case of minute " + minute, x.about(2 * minute - 2, 2), minute % 10);
            Check.is("ball of minute " + minute, x.about(2 * minute - 1, 2), minute % 10);
        }
    }

    private static GrassField withFinds(int finds) {
        GrassField x = armed(5);
        x.person(0, 0, 5, Check.law(x, "shoot"));
        x.person(1, 9, 0, NONE);
        for (int i = 0; i < finds; i++) {
            x.other(3, 255, 0, 1900);
        }
        return x;
    }

    private static void promise14FindsBeyond120AreLost() {
        for (int finds = 116; finds <= 120; finds++) {
            GrassField x = withFinds(finds);
            x.run(1);
            String what = "behind " + finds;
            Check.is(what + ": finds", x.count(4), Math.min(120, finds + 3));
            for (int i = finds; i < Math.min(120, finds + 3); i++) {
                Check.is(what + ": kind of " + i, x.about(i, 0), i - finds);
            }
            Check.is(what + ": it fell", x.look(1, 3), 0);
            Check.is(what + ": rounds", x.count(11), 39);
            Check.is(what + ": the one who shot is not afraid", x.look(0, 2), 5);
        }
    }

    private static void promise14LostFindsDrawAsOthersDo() {
        GrassField full = withFinds(120);
        GrassField empty = withFinds(0);
        for (GrassField x : new GrassField[] {full, empty}) {
            x.seed(3);
            x.run(5);
        }
        Check.is("rounds", full.count(11), empty.count(11));
        Check.is("living", full.count(2), empty.count(2));
    }

    private static int moved(String law, int cell, int... others) {
        GrassField x = armed(1);
        x.person(0, cell, 5, Check.law(x, law));
        for (int i = 0; i < others.length; i++) {
            x.person(law.equals("flee") ? 2 * i + 1 : 2 * i + 2, others[i], 0, NONE);
        }
        x.run(1);
        return x.look(0, 1);
    }

    private static void promise14FleeingStaysOnTheField() {
        Check.is("cell 0, a foe there", moved("flee", 0, 0), 1);
        Check.is("cell 15, a foe beside", moved("flee", 15, 14), 15);
        Check.is("cell 15, a foe below", moved("flee", 15, 31), 14);
        Check.is("cell 240, a foe there", moved("flee", 240, 240), 224);
        Check.is("cell 255, a foe there", moved("flee", 255, 255), 238);
        Check.is("cell 16, a foe to the right", moved("flee", 16, 17), 0);
        Check.is("cell 31, a foe to the left", moved("flee", 31, 29), 15);
        Check.is("cell 5, a foe below", moved("flee", 5, 37), 4);
        Check.is("cell 250, a foe above", moved("flee", 250, 218), 249);
    }

    private static void promise14FleeingTakesTheLeastOfTheFarthest() {
        Check.is("a foe in the same cell: all 8 are 1 far", moved("flee", 136, 136), 119);
        Check.is("a foe to the left: the right column", moved("flee", 136, 134), 121);
        Check.is("a foe to the right: the left column", moved("flee", 136, 138), 119);
        Check.is("a foe below: the upper row", moved("flee", 136, 168), 119);
        Check.is("a foe above: the lower row", moved("flee", 136, 104), 151);
    }

    private static void promise14FleeingGoesToEachCorner() {
        Check.is("to the right below", moved("flee", 136, 104, 134), 153);
        Check.is("to the left below", moved("flee", 136, 104, 138), 151);
        Check.is("to the right above", moved("flee", 136, 168, 134), 121);
        Check.is("to the left above", moved("flee", 136, 168, 138), 119);
    }

    private static void promise14NobodyGoesFartherThan1() {
        Check.is("fleeing", moved("flee", 136, 135), 121);
        for (int friend : new int[] {166, 168, 170, 134, 138, 102, 104, 106}) {
            int cell = moved("join", 136, friend);
            Check.yes("joining " + friend, Math.abs(cell % 16 - 8) <= 1 && Math.abs(cell / 16 - 8) <= 1);
        }
        Check.is("a friend to the left, 2 below", moved("join", 136, 167), 151);
    }

    private static void promise14PersonZeroIsFoeAndFriendLikeOthers() {
        GrassField x = armed(1);
        x.person(0, 0, 0, NONE);
        x.person(2, 6, 0, Check.law(x, "join"));
        x.person(1, 9, 0, Check.law(x, "shoot"));
        x.run(1);
        Check.is("it is joined", x.look(1, 1), 5);
        GrassField y = armed(1);
        y.person(0, 0, 0, NONE);
        y.person(2, 15, 0, NONE);
        y.person(1, 6, 0, Check.law(y, "shoot"));
        y.run(1);
        Check.is("it is shot at", y.about(1, 1), 0);
        GrassField z = armed(1);
        z.person(0, 136, 0, NONE);
        z.person(1, 138, 0, Check.law(z, "flee"));
        z.run(1);
        Check.is("it is fled from", z.look(1, 1), 123);
    }

    private static void promise14WhoShootsStays() {
        GrassField x = armed(5);
        x.person(0, 130, 5, Check.law(x, "shoot"));
        x.person(1, 140, 0, NONE);
        x.run(1);
        Check.is("both are living", x.count(2), 2);
        Check.is("its cell", x.look(0, 1), 130);
        Check.is("its gun", x.look(0, 0), 0);
        Check.is("its fear", x.look(0, 2), 5);
    }

    private static void promise14FleeingLooksAtTheNearestFoeOfEachCell() {
        Check.is("two foes, left and right: above", moved("flee", 136, 133, 139), 120);
        Check.is("shut in by four: it stays", moved("flee", 136, 134, 138, 104, 168), 136);
        Check.is("near one foe, farther from the other", moved("flee", 136, 134, 140), 121);
    }

    private static void promise14WithoutAFoeFleeingStays() {
        Check.is("nobody", moved("flee", 136), 136);
        GrassField x = armed(1);
        x.person(0, 136, 5, Check.law(x, "flee"));
        x.person(2, 137, 0, NONE);
        x.run(1);
        Check.is("a friend alone", x.look(0, 1), 136);
        Check.is("it does not hold", x.look(0, 2), 4);
    }

    private static void promise14JoiningGoesToTheNearestFriend() {
        Check.is("a friend far right", moved("join", 136, 143), 121);
        Check.is("a friend far left", moved("join", 136, 129), 119);
        Check.is("a friend far across", moved("join", 136, 255), 153);
        Check.is("the nearer one of two", moved("join", 136, 129, 139), 121);
        Check.is("of two that are as near the least number", moved("join", 136, 140, 132), 121);
        Check.is("and the other way", moved("join", 136, 132, 140), 119);
    }

    private static void promise14JoiningEndsAtTheFriend() {
        Check.is("a friend beside", moved("join", 136, 137), 137);
        Check.is("a friend across", moved("join", 136, 119), 119);
        Check.is("a friend in the same cell", moved("join", 136, 136), 136);
        Check.is("2 far: the least cell that is 1 far from it", moved("join", 136, 138), 121);
        Check.is("2 far across: one cell", moved("join", 136, 170), 153);
    }

    private static void promise14JoiningStaysOnTheField() {
        Check.is("cell 0", moved("join", 0, 7), 1);
        Check.is("cell 15", moved("join", 15, 8), 14);
        Check.is("cell 255", moved("join", 255, 248), 238);
        Check.is("cell 240", moved("join", 240, 247), 225);
        Check.is("from x 15 to x 0 there is no short way", moved("join", 31, 32), 14);
    }

    private static void promise14WithoutAFriendJoiningStays() {
        Check.is("nobody", moved("join", 136), 136);
        GrassField x = armed(1);
        x.person(0, 136, 3, Check.law(x, "join"));
        x.person(1, 139, 0, NONE);
        x.run(1);
        Check.is("a foe alone", x.look(0, 1), 136);
        Check.is("it does not hold", x.look(0, 2), 4);
    }

    private static void promise14AFriendWhoFellIsNotJoined() {
        GrassField x = armed(1);
        x.person(1, 140, 0, Check.law(x, "shoot if minute < 2"));
        x.person(0, 131, 0, NONE);
        x.person(2, 128, 0, Check.law(x, "join"));
        x.run(1);
        Check.is("one fell", x.look(1, 3), 0);
        Check.is("there is nobody to go to", x.look(2, 1), 128);
    }

    private static void promise14DroppingOnceIsAll() {
        GrassField x = armed(3);
        x.person(0, 0, 5, Check.law(x, "drop"));
        x.run(3);
        Check.is("no gun", x.look(0, 0), NONE);
        Check.is("its rounds are there still", x.count(11), 24);
        Check.is("fear", x.look(0, 2), 5);
    }

    private static void promise14WhoFellDoesNothing() {
        GrassField x = armed(3);
        Check.law(x, "shoot");
        x.person(0, 0, 5, 0);
        x.person(1, 0, 5, 0);
        x.run(1);
        Check.is("it fell", x.look(1, 3), 0);
        Check.is("its fear is as it was", x.look(1, 2), 5);
        Check.is("it shot nothing", x.count(4), 3);
        x.run(1);
        Check.is("nor later", x.count(4), 3);
    }

    /** Whether a C is true of person 0 in cell 136 with gun 0; others come by their guns and cells. */
    private static boolean isTrue(String condition, int rounds, int... gunsAndCells) {
        GrassField x = armed(rounds);
        x.person(0, 136, 5, Check.law(x, "drop if " + condition));
        for (int i = 0; i < gunsAndCells.length; i += 2) {
            x.person(gunsAndCells[i], gunsAndCells[i + 1], 0, NONE);
        }
        x.run(1);
        return x.look(0, 0) == NONE;
    }

    private static void promise14AloneIsNoFriendWithin2() {
        Check.yes("nobody", isTrue("alone", 1));
        Check.no("a friend 2 far", isTrue("alone", 1, 2, 138));
        Check.yes("a friend 3 far", isTrue("alone", 1, 2, 139));
        Check.yes("a foe beside", isTrue("alone", 1, 1, 137));
    }

    private static void promise14ArmedIsWithOneRound() {
        Check.yes("one round", isTrue("armed", 1));
        Check.no("none", isTrue("armed", 0));
        Check.yes("40", isTrue("armed and rounds > 39", 40));
        Check.no("40", isTrue("rounds > 40", 40));
        Check.no("none", isTrue("rounds > 0", 0));
        Check.yes("none", isTrue("rounds < 1", 0));
    }

    private static void promise14WithoutAGunNoRounds() {
        GrassField x = armed(3);
        x.person(0, 0, 5, Check.law(x, "drop if minute < 2;hold if not armed and rounds < 1;flee"));
        x.run(2);
        Check.is("fear", x.look(0, 2), 4);
    }

    private static void promise14FarIs99WithoutAFoe() {
        Check.yes("nobody", isTrue("far > 98 and far < 100", 1));
        Check.yes("a friend", isTrue("far > 98 and far < 100", 1, 2, 137));
        Check.yes("a foe in the same cell", isTrue("far < 1", 1, 1, 136));
        Check.yes("the nearest one of two", isTrue("far > 1 and far < 3", 1, 1, 139, 3, 134));
        Check.yes("8 far", isTrue("far > 7 and far < 9", 1, 1, 0));
    }

    private static void promise14FoesAndFriendsOfTheLaw() {
        Check.yes("3 far", isTrue("foes > 0 and foes < 2", 1, 1, 139));
        Check.yes("4 far", isTrue("foes < 1", 1, 1, 140));
        Check.yes("2 far", isTrue("friends > 0 and friends < 2", 1, 2, 138));
        Check.yes("3 far", isTrue("friends < 1", 1, 2, 139));
        Check.yes("4 foes and 3 friends", isTrue("foes > 3 and foes < 5 and friends > 2 and friends < 4", 1,
            1, 136, 2, 136, 3, 136, 4, 136, 5, 136, 6, 136, 7, 136));
    }

    private static void promise14MinuteOfTheLawIsTheOneThatGoes() {
        Check.yes("the first one is 1", isTrue("minute > 0 and minute < 2", 1));
        GrassField x = armed(1);
        x.person(0, 0, 5, Check.law(x, "drop if minute > 238"));
        x.run(60);
        x.run(60);
        x.run(60);
        x.run(58);
        Check.is("in minute 238", x.look(0, 0), 0);
        x.run(1);
        Check.is("in minute 239", x.look(0, 0), NONE);
    }

    private static void promise14FearOfTheLawHasMoved() {
        Check.yes("5 and one more", isTrue("fear > 5 and fear < 7", 1, 1, 137));
        Check.yes("5 less one", isTrue("fear > 3 and fear < 5", 1, 2, 137));
        Check.yes("9 at most", isTrue("fear > 8 and fear < 10", 1, 1, 136, 3, 136, 5, 136, 7, 136));
    }

    private static void promise14HeightOfTheLawIsThatOfItsCell() {
        for (int height : new int[] {0, 9}) {
            GrassField x = armed(1);
            x.ground(0, 255, 5);
            x.ground(136, 136, height);
            x.person(0, 136, 5, Check.law(x, height == 0 ? "drop if height < 1" : "drop if height > 8"));
            x.run(1);
            Check.is("height " + height, x.look(0, 0), NONE);
        }
    }
}
