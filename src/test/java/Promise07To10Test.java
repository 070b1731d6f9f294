/** The boundaries of promises 7 to 10: guns, the day, laws as texts, the first wrong byte. */
public final class Promise07To10Test {
    private static final int LEAST = Integer.MIN_VALUE;
    private static final int GREATEST = Integer.MAX_VALUE;
    private static final String TEN_LINES = "hold;hold;hold;hold;hold;hold;hold;hold;hold;hold";

    public static void main(String[] args) {
        Check.runPromises(Promise07To10Test.class);
    }

    // ---- 7: gun

    /** The case of a gun tells its mark, its side and its year. */
    private static GrassField withGun(int side, int mark, int year, int rounds) {
        GrassField x = new GrassField();
        x.walk(0);
        Check.is("gun", x.gun(side, mark, year, rounds), 0);
        return x;
    }

    private static void promise07SidesAre0And1() {
        for (int side = 0; side < 2; side++) {
            GrassField x = withGun(side, 0, 1870, 1);
            x.found(0, 0, 1);
            Check.is("minutes of its side", x.length(side, 1, 1, true), 1);
            Check.is("minutes of the other side", x.length(1 - side, 1, 1, true), 0);
        }
        for (int wrong : new int[] {-1, 2, LEAST, GREATEST}) {
            Check.leaves("side " + wrong, Check.ARGUMENT, x -> x.gun(wrong, 0, 1870, 1));
        }
    }

    private static void promise07MarksGoFrom0To15() {
        for (int mark : new int[] {0, 15}) {
            GrassField x = withGun(0, mark, 1870, 1);
            Check.is("cases of its mark", x.about(x.found(0, 0, 1 << mark), 5), 1);
            Check.is("cases of others", x.about(x.found(0, 0, 0xffff & ~(1 << mark)), 5), 0);
        }
        for (int wrong : new int[] {-1, 16, LEAST, GREATEST}) {
            Check.leaves("mark " + wrong, Check.ARGUMENT, x -> x.gun(0, wrong, 1870, 1));
        }
    }

    private static void promise07YearsGoFrom1800To1999() {
        GrassField old = withGun(0, 0, 1800, 1);
        old.found(0, 0, 1);
        old.day(1800);
        Check.is("of 1800, on a day of 1800", old.later(1), 0);
        GrassField young = withGun(0, 0, 1999, 1);
        young.found(0, 0, 1);
        young.day(1998);
        Check.is("of 1999, on a day of 1998", young.later(1), 1);
        for (int wrong : new int[] {1799, 2000, 0, -1, LEAST, GREATEST}) {
            Check.leaves("year " + wrong, Check.ARGUMENT, x -> x.gun(0, 0, wrong, 1));
        }
    }

    private static void promise07RoundsGoFrom0To40() {
        Check.is("0 rounds", withGun(0, 0, 1870, 0).count(11), 0);
        Check.is("40 rounds", withGun(0, 0, 1870, 40).count(11), 40);
        for (int wrong : new int[] {-1, 41, LEAST, GREATEST}) {
            Check.leaves("rounds " + wrong, Check.ARGUMENT, x -> x.gun(0, 0, 1870, wrong));
        }
    }

    private static GrassField eightGuns() {
        GrassField x = new GrassField();
        for (int i = 0; i < 8; i++) {
            x.gun(i % 2, i, 1870, i);
        }
        return x;
    }

    private static void promise07NumbersGoFrom0To7() {
        GrassField x = new GrassField();
        for (int i = 0; i < 8; i++) {
            Check.is("gun", x.gun(0, 0, 1870, 0), i);
            Check.is("guns", x.count(0), i + 1);
        }
    }

    private static void promise07ANinthIsRefused() {
        Check.leaves("a 9th gun", Check.FULL, Promise07To10Test::eightGuns, x -> x.gun(0, 15, 1870, 9));
    }

    private static void promise07AWrongNumberIsToldAheadOfNoRoom() {
        Check.refuses("a wrong side", Check.ARGUMENT, () -> eightGuns().gun(2, 0, 1870, 0));
        Check.refuses("a wrong mark", Check.ARGUMENT, () -> eightGuns().gun(0, 16, 1870, 0));
        Check.refuses("a wrong year", Check.ARGUMENT, () -> eightGuns().gun(0, 0, 2000, 0));
        Check.refuses("wrong rounds", Check.ARGUMENT, () -> eightGuns().gun(0, 0, 1870, 41));
    }

    // ---- 8: day

    private static void promise08DaysGoFrom1800To1999() {
        GrassField x = new GrassField();
        x.walk(0);
        x.other(3, 0, 0, 1800);
        x.other(3, 0, 0, 1801);
        x.other(3, 0, 0, 1999);
        x.day(1800);
        Check.is("above 1800", x.later(0), 2);
        x.day(1998);
        Check.is("above 1998", x.later(0), 1);
        x.day(1999);
        Check.is("above 1999", x.later(0), 0);
    }

    private static void promise08OthersAreRefused() {
        for (int wrong : new int[] {1799, 2000, 0, -1, LEAST, GREATEST}) {
            Check.leaves("day(" + wrong + ")", Check.ARGUMENT, x -> x.day(wrong));
        }
    }

    // ---- 9: law

    private static void right(String text) {
        GrassField x = new GrassField();
        Check.tape(x, text);
        Check.takes("law '" + text + "'", () -> x.law());
        Check.is("laws behind '" + text + "'", x.count(3), 1);
        Check.is("fault of '" + text + "'", x.fault(), GrassField.NONE);
        Check.no("the tape is used up", x.end(1));
    }

    private static void wrong(String text, int place) {
        GrassField x = new GrassField();
        Check.tape(x, text);
        Check.refuses("law '" + text + "'", Check.ARGUMENT, () -> x.law());
        Check.is("laws behind '" + text + "'", x.count(3), 0);
        Check.is("fault of '" + text + "'", x.fault(), place);
        Check.no("the tape is used up", x.end(1));
    }

    private static void promise09AnEmptyTextHasNoLine() {
        right("");
        GrassField x = new GrassField();
        Check.is("an empty tape", x.law(), 0);
        x.gun(0, 0, 1870, 1);
        x.person(0, 0, 5, 0);
        x.run(1);
        Check.is("who is under it holds", x.look(0, 2), 4);
    }

    private static void promise09BlanksAloneHaveNoLine() {
        right(" ");
        right(" ".repeat(400));
        GrassField x = new GrassField();
        x.gun(0, 0, 1870, 1);
        x.person(0, 0, 5, Check.law(x, "   "));
        x.run(1);
        Check.is("who is under it holds", x.look(0, 2), 4);
    }

    private static void promise09OneToTenLines() {
        right("hold");
        right(TEN_LINES);
        right("hold;hold;hold;hold;hold;hold;hold;hold;hold");
        right(TEN_LINES + " if armed");
        right(TEN_LINES + "  ");
    }

    private static void promise09AnEleventhLineIsWrongAtItsFirstWord() {
        wrong(TEN_LINES + ";hold", 50);
        wrong(TEN_LINES + " ;  hold if armed", 53);
        wrong(TEN_LINES + ";shoot;flee", 50);
        wrong(TEN_LINES + ";x", 50);
    }

    private static void promise09BehindTheTenthASignWaitsForMore() {
        wrong(TEN_LINES + ";", 50);
        wrong(TEN_LINES + ";  ", 52);
    }

    private static void promise09TheTenthLineCounts() {
        GrassField x = new GrassField();
        x.gun(0, 0, 1870, 1);
        String nine = "flee if 1<0;flee if 1<0;flee if 1<0;flee if 1<0;flee if 1<0;flee if 1<0;flee if 1<0;flee if 1<0;flee if 1<0;";
        x.person(0, 0, 5, Check.law(x, nine + "drop"));
        x.run(1);
        Check.is("its gun", x.look(0, 0), GrassField.NONE);
    }

    private static void promise09ALineBeginsWithAnAct() {
        right("shoot");
        right("flee");
        right("join");
        right("hold");
        right("drop");
        wrong("if", 0);
        wrong("armed", 0);
        wrong("far", 0);
        wrong("1", 0);
        wrong("(hold)", 0);
        wrong("not hold", 0);
    }

    private static void promise09BetweenLinesIsOneSign() {
        right("flee;hold");
        wrong("flee hold", 5);
        wrong("flee;;hold", 5);
        wrong(";flee", 0);
        wrong("flee,hold", 4);
        wrong("flee:hold", 4);
    }

    private static void promise09IfMoreMustComeItIsTheLength() {
        wrong("flee;", 5);
        wrong("flee; ", 6);
        wrong("flee if", 7);
        wrong("flee if  ", 9);
        wrong("flee if not", 11);
        wrong("flee if (", 9);
        wrong("flee if (armed", 14);
        wrong("flee if (armed ", 15);
        wrong("flee if far", 11);
        wrong("flee if 2", 9);
        wrong("flee if 2*", 10);
        wrong("flee if 2*far", 13);
        wrong("flee if 2+", 10);
        wrong("flee if 2<", 10);
        wrong("flee if 2<3+", 12);
        wrong("flee if armed or", 16);
        wrong("flee if armed and", 17);
        wrong("flee if far < 1" + " ".repeat(384) + "+", 400);
    }

    private static void promise09NumbersHaveOneToThreeDigits() {
        right("flee if 0 < far");
        right("flee if 10 < far");
        right("flee if 999 > far");
        right("flee if 000 < far");
        wrong("flee if 0000 < far", 8);
        wrong("flee if 1000 < far", 8);
        wrong("flee if 1 < 1234567890123", 12);
        wrong("flee if 1234", 8);
        wrong("flee if 1 < 2 + 1234", 16);
        wrong("flee if 1234*far > 1", 8);
    }

    private static void promise09ThreeDigitsCountWhole() {
        Check.yes("999 is 999", isTrue("999 > 998"));
        Check.no("998 is not above 999", isTrue("998 > 999"));
        Check.yes("010 is 10", isTrue("010 > 9"));
        Check.no("010 is not above 10", isTrue("010 > 10"));
        Check.yes("999*minute is 999", isTrue("999*minute > 998"));
        Check.no("000 is 0", isTrue("000 > 0"));
    }

    private static boolean isTrue(String condition) {
        GrassField x = new GrassField();
        x.gun(0, 0, 1870, 1);
        x.person(0, 0, 0, Check.law(x, "drop if " + condition));
        x.run(1);
        return x.look(0, 0) == GrassField.NONE;
    }

    private static void promise09LessAndMoreAreStrict() {
        Check.no("1 < 1", isTrue("1 < 1"));
        Check.yes("1 < 2", isTrue("1 < 2"));
        Check.no("2 < 1", isTrue("2 < 1"));
        Check.no("1 > 1", isTrue("1 > 1"));
        Check.yes("2 > 1", isTrue("2 > 1"));
        Check.no("1 > 2", isTrue("1 > 2"));
    }

    /** Of minute 1, with one's gun that has a round: armed and alone are true, foes and friends 0. */
    private static void promise09AndBindsMoreThanOr() {
        Check.yes("true or false and false", isTrue("armed or 1<0 and 1<0"));
        Check.yes("false and false or true", isTrue("1<0 and 1<0 or armed"));
        Check.no("(true or false) and false", isTrue("(armed or 1<0) and 1<0"));
        Check.no("false and (false or true)", isTrue("1<0 and (1<0 or armed)"));
        Check.yes("false or true and true or false", isTrue("1<0 or armed and alone or 1<0"));
        Check.no("false or true and false or false", isTrue("1<0 or armed and 1<0 or 1<0"));
        Check.no("true and true and false", isTrue("armed and alone and 1<0"));
        Check.yes("false or false or true", isTrue("1<0 or 1<0 or alone"));
        Check.no("false or false or false", isTrue("1<0 or 1<0 or 2<1"));
        Check.yes("true or true or false", isTrue("armed or alone or 1<0"));
        Check.yes("true or false or false", isTrue("armed or 1<0 or 1<0"));
        Check.yes("two tags", isTrue("armed and alone"));
        Check.yes("true and (true)", isTrue("armed and (alone)"));
        Check.yes("true and (false or true)", isTrue("armed and (1<0 or alone)"));
        Check.no("true and (false)", isTrue("armed and (1<0)"));
        Check.yes("(true) and (true)", isTrue("(armed) and (alone)"));
        Check.no("(false) or (false)", isTrue("(1<0) or (1<0)"));
    }

    private static void promise09NotIsOfOneAtom() {
        Check.no("not true", isTrue("not armed"));
        Check.yes("not false", isTrue("not 1<0"));
        Check.yes("not not true", isTrue("not not armed"));
        Check.no("(not true) and false", isTrue("not armed and 1<0"));
        Check.yes("(not true) or true", isTrue("not armed or alone"));
        Check.no("not (true or true)", isTrue("not (armed or alone)"));
        Check.yes("not (true and false)", isTrue("not (armed and 1<0)"));
        Check.no("not (0 < 1)", isTrue("not 0<1"));
    }

    private static void promise09SumsAndProducts() {
        Check.yes("1+2 is 3", isTrue("1+2 < 4 and 1+2 > 2"));
        Check.yes("1+2+3 is 6", isTrue("7 > 1+2+3 and 5 < 1+2+3"));
        Check.yes("5*minute is 5", isTrue("5*minute < 6 and 5*minute > 4"));
        Check.yes("5*fear of 0 is 0", isTrue("5*fear < 1"));
        Check.yes("1+5*minute+2*minute is 8", isTrue("1+5*minute+2*minute > 7 and 1+5*minute+2*minute < 9"));
        Check.yes("0*far is 0", isTrue("0*far < 1"));
        Check.yes("2*far is 198", isTrue("2*far > 197 and 2*far < 199"));
    }

    private static void promise09ATextOf400BytesEndsWithAnyWord() {
        for (String word : new String[] {"shoot", "flee", "join", "hold", "drop", "drop if armed", "drop if alone"}) {
            right("hold" + " ".repeat(395 - word.length()) + ";" + word);
        }
        for (String word : new String[] {"shoo", "fle", "joi", "hol", "dro", "i", "hel", "late"}) {
            wrong("hold" + " ".repeat(395 - word.length()) + ";" + word, 400 - word.length());
        }
        right("drop if far" + " ".repeat(385) + "<far");
    }

    private static void promise09ATextOf400BytesCountsWhole() {
        Check.yes("193 is below 194", isTrue("193<1" + "+1".repeat(193) + " "));
        Check.no("194 is not below 194", isTrue("194<1" + "+1".repeat(193) + " "));
        Check.yes("a long row of or", isTrue("1<0" + " or 1<0".repeat(54) + " or armed"));
        Check.no("a long row of or, all false", isTrue("1<0" + " or 1<0".repeat(55)));
        Check.yes("a long row of and", isTrue("0<1" + " and 0<1".repeat(47) + " and armed"));
        Check.no("a long row of and, the last one false", isTrue("0<1" + " and 0<1".repeat(47) + " and 1<0"));
    }

    private static void promise09AWordEndsWithTheText() {
        GrassField x = new GrassField();
        Check.tape(x, "hold");
        x.end(3);
        Check.refuses("what was cut is no part of it", Check.ARGUMENT, () -> x.law());
        Check.is("its begin", x.fault(), 0);
        Check.tape(x, "holdx");
        x.end(4);
        Check.is("a word that was longer", x.law(), 0);
    }

    private static void promise09SixDeepIsTaken() {
        right("flee if ((((((armed))))))");
        right("flee if not not not not not not armed");
        right("flee if not(not(not(armed)))");
        right("flee if (((((( 1<2 ))))))");
        right("flee if not(((((alone)))))");
    }

    private static void promise09ASeventhIsWrongAtItsBegin() {
        wrong("flee if (((((((armed)))))))", 14);
        wrong("flee if ((((((  (armed)))))))", 16);
        wrong("flee if not not not not not not not armed", 32);
        wrong("flee if (((((( not armed ))))))", 15);
        wrong("flee if not not not not not not (armed)", 32);
        wrong("flee if armed or (((((((armed)))))))", 23);
        wrong("flee;hold if (((((((armed)))))))", 19);
    }

    private static void promise09SideBySideIsNotDeep() {
        right("flee if ((((((armed)))))) or ((((((armed)))))) and ((((((armed))))))");
        right("flee if not not not not not not armed and not not not not not not alone");
        right("flee if (((((armed) or (alone)) or (alone))))and((((((alone))))))");
        right("flee if (not armed and not armed and not armed and not armed and not armed and not armed and not armed)");
        right("flee if not not not armed;flee if not not not not armed");
        right("flee if not not not (not not armed or not armed and not not armed)");
        wrong("flee if not not not (not not armed or not armed and not not not armed)", 60);
    }

    private static void promise09WordsGoOnFromAToZ() {
        wrong("holda", 0);
        wrong("holdz", 0);
        wrong("ahold", 0);
        wrong("zhold", 0);
        wrong("hold`", 4);
        wrong("hold{", 4);
        wrong("holdA", 4);
        wrong("holdZ", 4);
        wrong("Hold", 0);
        wrong("hol", 0);
        wrong("hold ifarmed", 5);
        wrong("holdif armed", 0);
        wrong("hold if notarmed", 8);
        wrong("hold if armedor alone", 8);
        wrong("hold if armed oralone", 14);
    }

    private static void promise09WithoutBlanksWhereNoWordMeetsAWord() {
        right("hold if(armed)or(alone)and 1<far;flee if 2*far+1>3");
        right("hold if 1<2and armed");
        right("hold if far<2and armed");
        right("hold if armed;flee");
    }

    private static void promise09DigitsGoOnFrom0To9() {
        right("hold if 0<9");
        right("hold if 9<0");
        wrong("hold if 1/<2", 9);
        wrong("hold if 1:<2", 9);
        wrong("hold if 1 2 < 3", 10);
    }

    private static void promise09BlanksStandBetweenAll() {
        right("  hold   if   (  armed  )  or  2  *  far  +  1  <  3  ;  flee  ");
        wrong("hold if far < 1 0", 16);
        wrong("ho ld", 0);
    }

    private static void promise09OnlyByte32IsABlank() {
        for (int sign : new int[] {0, 1, 9, 10, 13, 31, 33, 127, 128, 160, 255}) {
            wrong("hold" + (char) sign, 4);
            wrong((char) sign + "hold", 0);
            wrong((char) sign + "", 0);
        }
    }

    private static void promise09AFactStandsBehindItsNumber() {
        right("hold if 2*far<1");
        wrong("hold if far*2<1", 11);
        wrong("hold if 2*2<1", 10);
        wrong("hold if 2*far*2<1", 13);
        wrong("hold if far*far<1", 11);
        wrong("hold if 2 far<1", 10);
        wrong("hold if 2*armed<1", 10);
    }

    private static void promise09OneComparisonHasOneSign() {
        wrong("hold if 1<2<3", 11);
        wrong("hold if 1<2>3", 11);
        wrong("hold if 1<>2", 10);
        wrong("hold if 1=2", 9);
        wrong("hold if <2", 8);
        wrong("hold if 1+<2", 10);
        wrong("hold if +1<2", 8);
        wrong("hold if (1)<2", 10);
        wrong("hold if (1<2)+1<2", 13);
    }

    private static void promise09TagsStandAlone() {
        wrong("hold if armed<1", 13);
        wrong("hold if 1<armed", 10);
        wrong("hold if armed 1", 14);
        wrong("hold if far", 11);
        wrong("hold if far or armed", 12);
    }

    private static void promise09WordsOfStoriesAreNone() {
        for (String word : new String[] {"cases", "balls", "bones", "later", "guns", "fits", "heaps"}) {
            wrong("hold if " + word + " > 1", 8);
            wrong("hold if 1 > 2*" + word, 14);
        }
        wrong("hold if held 1", 8);
    }

    private static void promise09LawsAreFour() {
        GrassField x = new GrassField();
        for (int i = 0; i < 4; i++) {
            Check.is("law", Check.law(x, "hold"), i);
            Check.is("laws", x.count(3), i + 1);
        }
    }

    private static GrassField fourLaws(String tape) {
        GrassField x = new GrassField();
        for (int i = 0; i < 4; i++) {
            Check.law(x, "drop if minute > 1");
        }
        x.gun(0, 0, 1870, 1);
        x.person(0, 0, 5, 3);
        Check.tape(x, tape);
        return x;
    }

    private static void promise09AFifthIsRefused() {
        GrassField x = fourLaws("flee");
        Check.refuses("a 5th law", Check.FULL, () -> x.law());
        Check.no("the tape is used up", x.end(1));
        Check.is("its text is right", x.fault(), GrassField.NONE);
        Check.alike("a 5th law", Rich.printButTape(x), Rich.printButTape(fourLaws("")));
    }

    private static void promise09AWrongTextIsToldAheadOfNoRoom() {
        GrassField x = fourLaws("flee flee");
        Check.refuses("a wrong 5th law", Check.ARGUMENT, () -> x.law());
        Check.no("the tape is used up", x.end(1));
        Check.is("fault", x.fault(), 5);
        Check.alike("a wrong 5th law", Rich.printButTape(x), Rich.printButTape(fourLaws("")));
    }

    private static void promise09ARefusedTextLeavesAllElse() {
        GrassField x = Rich.make();
        Check.refuses("a wrong law", Check.ARGUMENT, () -> x.law());
        Check.is("fault", x.fault(), 14);
        Check.no("the tape is used up", x.end(1));
        Check.alike("a wrong law", Rich.printButTape(x), Rich.printButTape(Rich.make()));
    }

    // ---- 10: fault

    private static void promise10NoneAheadOfAnyText() {
        GrassField x = new GrassField();
        Check.is("at first", x.fault(), GrassField.NONE);
        x.feed(-1, -1, -1, -1, -1);
        x.end(3);
        Check.is("of a tape that was not read", x.fault(), GrassField.NONE);
    }

    private static void promise10NoneOfARightText() {
        GrassField x = new GrassField();
        Check.tape(x, "hold ?");
        Check.refuses("a wrong law", Check.ARGUMENT, () -> x.law());
        Check.is("of a wrong one", x.fault(), 5);
        Check.law(x, "hold");
        Check.is("of a right one behind it", x.fault(), GrassField.NONE);
        Check.tape(x, "?");
        Check.refuses("a wrong story", Check.ARGUMENT, () -> x.story(1));
        Check.is("of a wrong story", x.fault(), 0);
        Check.story(x, "cases > 1", 1);
        Check.is("of a right story", x.fault(), GrassField.NONE);
    }

    private static void promise10OfTheLatestTextThatWasRead() {
        GrassField x = new GrassField();
        Check.tape(x, "hold ?");
        Check.refuses("a wrong law", Check.ARGUMENT, () -> x.law());
        x.feed(-1, -1, -1, -1, -1);
        x.end(0);
        x.walk(0);
        Check.is("still of the law", x.fault(), 5);
        Check.refuses("an empty story", Check.ARGUMENT, () -> x.story(1));
        Check.is("of the story", x.fault(), 0);
    }

    private static void promise10OfOneThatIsRefused() {
        GrassField x = fourLaws("hold ?");
        Check.refuses("a wrong 5th law", Check.ARGUMENT, () -> x.law());
        Check.is("of the wrong one", x.fault(), 5);
        Check.tape(x, "hold");
        Check.refuses("a right 5th law", Check.FULL, () -> x.law());
        Check.is("of the right one that has no room", x.fault(), GrassField.NONE);
        Check.tape(x, "cases >");
        Check.refuses("a wrong story of no weight", Check.ARGUMENT, () -> x.story(0));
        Check.is("of the wrong story", x.fault(), 7);
        Check.tape(x, "cases > 1");
        Check.refuses("a right story of no weight", Check.ARGUMENT, () -> x.story(0));
        Check.is("of the right story", x.fault(), GrassField.NONE);
    }

    private static void promise10TheFirstAndTheLastByte() {
        wrong("?", 0);
        wrong("hold" + " ".repeat(395) + "?", 399);
        wrong("hold;" + " ".repeat(395), 400);
    }

    private static void promise10OfSeveralWrongOnesTheFirst() {
        wrong("hold ? ? 1234", 5);
        wrong("hold 1234 ?", 5);
        wrong("run;run", 0);
    }
}
