import java.util.List;

/** The boundaries of promises 37 to 42: stories, the image, and what is counted. */
public final class Promise37To42Test {
    private static final int LEAST = Integer.MIN_VALUE;
    private static final int GREATEST = Integer.MAX_VALUE;

    public static void main(String[] args) {
        Check.runPromises(Promise37To42Test.class);
    }

    // ---- 37: story

    private static void right(String text) {
        GrassField x = new GrassField();
        Check.tape(x, text);
        Check.takes("story '" + text + "'", () -> x.story(1));
        Check.is("stories behind '" + text + "'", x.count(9), 1);
        Check.is("fault of '" + text + "'", x.fault(), GrassField.NONE);
        Check.no("the tape is used up", x.end(1));
    }

    private static void wrong(String text, int place) {
        GrassField x = new GrassField();
        Check.tape(x, text);
        Check.refuses("story '" + text + "'", Check.ARGUMENT, () -> x.story(1));
        Check.is("stories behind '" + text + "'", x.count(9), 0);
        Check.is("fault of '" + text + "'", x.fault(), place);
        Check.no("the tape is used up", x.end(1));
    }

    private static void promise37WeightsGoFrom1To99() {
        for (int weight : new int[] {1, 99}) {
            GrassField x = new GrassField();
            Check.is("weight " + weight, Check.story(x, "cases < 1", weight), 0);
            Check.is("a second one", Check.story(x, "cases < 1", 1), 1);
            Check.is("odds", x.odds(0), 10000 * weight / (weight + 1));
        }
        for (int weight : new int[] {0, -1, 100, LEAST, GREATEST}) {
            GrassField x = new GrassField();
            Check.tape(x, "cases < 1");
            Check.refuses("weight " + weight, Check.ARGUMENT, () -> x.story(weight));
            Check.no("the tape is used up", x.end(1));
            Check.is("the text was right", x.fault(), GrassField.NONE);
            Check.is("stories", x.count(9), 0);
        }
    }

    private static void promise37ARefusedTextLeavesAllElse() {
        GrassField x = Rich.make();
        Check.refuses("a law is no story", Check.ARGUMENT, () -> x.story(1));
        Check.is("fault", x.fault(), 0);
        Check.no("the tape is used up", x.end(1));
        Check.alike("a wrong story", Rich.printButTape(x), Rich.printButTape(Rich.make()));
        GrassField y = Rich.make();
        y.end(0);
        Check.tape(y, "cases > 1");
        Check.refuses("a right text of weight 100", Check.ARGUMENT, () -> y.story(100));
        Check.is("fault", y.fault(), GrassField.NONE);
        Check.no("the tape is used up", y.end(1));
        Check.alike("a wrong weight", Rich.printButTape(y), Rich.printButTape(Rich.make()));
    }

    private static GrassField fiveStories(String tape) {
        GrassField x = new GrassField();
        for (int i = 0; i < 5; i++) {
            Check.story(x, "cases < 1", i + 1);
        }
        Check.tape(x, tape);
        return x;
    }

    private static void promise37NumbersGoFrom0To4() {
        GrassField x = new GrassField();
        for (int i = 0; i < 5; i++) {
            Check.is("story", Check.story(x, "cases < 1", 1), i);
            Check.is("stories", x.count(9), i + 1);
        }
    }

    private static void promise37ASixthIsRefused() {
        GrassField x = fiveStories("cases > 1");
        Check.refuses("a 6th story", Check.FULL, () -> x.story(50));
        Check.is("its text is right", x.fault(), GrassField.NONE);
        Check.no("the tape is used up", x.end(1));
        Check.is("stories", x.count(9), 5);
        Check.is("odds of the last one", x.odds(4), 3333);
        Check.alike("a 6th story", Rich.printButTape(x), Rich.printButTape(fiveStories("")));
    }

    private static void promise37AWrongOneIsToldAheadOfNoRoom() {
        GrassField text = fiveStories("cases > 1 >");
        Check.refuses("a wrong text", Check.ARGUMENT, () -> text.story(50));
        Check.is("fault", text.fault(), 10);
        GrassField weight = fiveStories("cases > 1");
        Check.refuses("a wrong weight", Check.ARGUMENT, () -> weight.story(0));
        Check.is("fault", weight.fault(), GrassField.NONE);
        Check.no("the tape is used up", weight.end(1));
    }

    private static void promise37AnEmptyTextIsNoStory() {
        wrong("", 0);
        wrong(" ", 1);
        wrong(" ".repeat(400), 400);
        GrassField x = new GrassField();
        Check.refuses("no tape", Check.ARGUMENT, () -> x.story(1));
        Check.is("fault", x.fault(), 0);
    }

    private static void promise37ACAlone() {
        wrong("shoot", 0);
        wrong("shoot if cases > 1", 0);
        wrong("if cases > 1", 0);
        wrong("cases > 1;", 9);
        wrong("cases > 1;cases > 1", 9);
        wrong("cases > 1 cases > 1", 10);
        wrong("cases > 1 shoot", 10);
    }

    private static void promise37WordsOfLawsAreNone() {
        for (String word : new String[] {"foes", "friends", "fear", "minute", "height", "rounds", "far"}) {
            wrong(word + " > 1", 0);
            wrong("1 > 2*" + word, 6);
        }
        wrong("armed", 0);
        wrong("alone", 0);
        wrong("cases > 1 or armed", 13);
    }

    private static void promise37HeldHasANumber() {
        right("held 0");
        right("held 999");
        right("held3");
        right("held 3or held 4");
        wrong("held", 4);
        wrong("held ", 5);
        wrong("held 1000", 5);
        wrong("held cases", 5);
        wrong("held held 1", 5);
        wrong("held (1)", 5);
        wrong("held 1 > 2", 7);
        wrong("held 1 + 2", 7);
        wrong("held 2*cases", 6);
        wrong("1 < held 2", 4);
        wrong("held3a", 5);
    }

    private static void promise37NumbersHaveOneToThreeDigits() {
        right("cases > 0");
        right("cases > 999");
        wrong("cases > 1000", 8);
        wrong("cases > 1+2000", 10);
        wrong("0000*cases > 1", 0);
    }

    private static void promise37SixDeepAndNoSeventh() {
        right("((((((held 1))))))");
        right("not not not not not not held 1");
        right("not (not (not (held 1))) and not (not (not (held 1)))");
        wrong("(((((((held 1)))))))", 6);
        wrong("not not not not not not not held 1", 24);
        wrong("((((((not held 1))))))", 6);
    }

    private static void promise37IfMoreMustComeItIsTheLength() {
        wrong("cases", 5);
        wrong("cases ", 6);
        wrong("cases >", 7);
        wrong("cases > 1 or", 12);
        wrong("not", 3);
        wrong("(", 1);
        wrong("(held 1", 7);
        wrong("held 1" + " ".repeat(391) + "or", 399);
    }

    private static void promise37AWholeTape() {
        right("cases" + " ".repeat(393) + "<1");
        right("1<1" + "+1".repeat(198) + " ");
        wrong("cases" + " ".repeat(394) + "<", 400);
        wrong("1<1" + "+1".repeat(198) + "+", 400);
        wrong("cases" + " ".repeat(394) + "?", 399);
    }

    // ---- 38: holds

    private static void promise38StoriesAreThoseThatThereAre() {
        GrassField none = new GrassField();
        Check.refuses("story 0 of none", Check.INDEX, () -> none.holds(0));
        Check.yes("story 4 of 5", fiveStories("").holds(4));
        Check.refuses("story 5 of 5", Check.INDEX, () -> fiveStories("").holds(5));
        for (int wrong : new int[] {-1, 2, LEAST, GREATEST}) {
            Check.leaves("story " + wrong + " of 2", Check.INDEX, x -> x.holds(wrong));
        }
    }

    /** Guns 0 and 1 of side 0, gun 2 of side 1, marks likewise; all rows are walked. */
    private static GrassField field() {
        GrassField x = new GrassField();
        for (int i = 0; i < 3; i++) {
            x.gun(i / 2, i, 1870, 0);
        }
        for (int row = 0; row < 16; row++) {
            x.walk(row);
        }
        return x;
    }

    /** The field is left without the story: it would have no room for more than five. */
    private static boolean isTrue(GrassField x, String text) {
        x.image();
        boolean holds = x.holds(Check.story(x, text, 1));
        x.back();
        return holds;
    }

    private static void fact(String name, GrassField x, int due) {
        Check.yes(name + " is below " + (due + 1), isTrue(x, name + " < " + (due + 1)));
        Check.yes(name + " is not below " + due, isTrue(x, "not " + name + " < " + due));
        Check.no(name + " is not above " + due, isTrue(x, name + " > " + due));
    }

    private static void promise38EachFactOfNothingIs0() {
        for (String name : new String[] {"cases", "balls", "bones", "later", "guns", "fits", "heaps"}) {
            Check.yes(name, isTrue(new GrassField(), name + " < 1"));
            Check.no(name, isTrue(new GrassField(), name + " > 0"));
        }
    }

    private static void promise38FindsThatAreSeenByKinds() {
        GrassField x = field();
        int[] kinds = {1, 2, 3};
        for (int kind : kinds) {
            for (int i = 0; i <= kind; i++) {
                x.other(kind, 3, 0, kind == 3 ? 1800 + i : 1);
            }
            x.other(kind, 3, 9, kind == 3 ? 1999 : 1);
        }
        x.found(3, 0, 1);
        x.found(3, 9, 1);
        x.machine(8, 0);
        fact("cases", x, 1);
        fact("balls", x, 2);
        GrassField y = field();
        y.other(2, 3, 0, 1);
        y.other(3, 3, 0, 1800);
        y.other(3, 3, 0, 1999);
        fact("bones", y, 1);
        fact("later", y, 2);
    }

    private static void promise38GunsNeededOnTheWholeField() {
        GrassField x = field();
        x.found(0, 0, 1);
        x.found(255, 0, 2);
        x.found(100, 0, 3);
        x.found(101, 0, 0x8000);
        fact("guns", x, 2);
        x.found(102, 9, 4);
        fact("guns", x, 3);
    }

    private static void promise38HeapsHave4CasesOrMore() {
        GrassField x = field();
        for (int i = 0; i < 3; i++) {
            x.found(5, 0, 1);
            x.found(6, 0, 1);
        }
        x.other(1, 5, 0, 1);
        fact("heaps", x, 0);
        x.found(5, 0, 4);
        fact("heaps", x, 1);
        x.found(6, 0, 1);
        Check.yes("two", isTrue(x, "heaps > 1"));
    }

    private static void promise38FitsAreTellingsThatDo() {
        GrassField x = field();
        x.found(5, 0, 1);
        x.teller(5, 0, 9, 0);
        x.tells(0, 5, 9);
        x.tells(0, 6, 0);
        x.tells(0, 7, 0);
        x.tells(0, 5, 10);
        fact("fits", x, 2);
        x.tells(0, 5, 5);
        fact("fits", x, 3);
    }

    private static void promise38HeldIsAtLeastThatMany() {
        GrassField x = field();
        for (int column = 0; column < 4; column++) {
            x.found(32 + column, 0, 1);
        }
        Check.yes("held 0", isTrue(x, "held 0"));
        Check.yes("held 3 of 3", isTrue(x, "held 3"));
        Check.no("held 4 of 3", isTrue(x, "held 4"));
        Check.no("held 999", isTrue(x, "held 999"));
        Check.yes("held 0 of nothing", isTrue(new GrassField(), "held 0"));
        Check.no("held 1 of nothing", isTrue(new GrassField(), "held 1"));
    }

    private static void promise38HeldIsOfSide0WithinOne() {
        GrassField x = field();
        for (int column = 0; column < 9; column++) {
            x.found(32 + column, 0, 4);
        }
        Check.no("nine of side 1", isTrue(x, "held 1"));
        int[] columns = {0, 1, 3, 4, 6, 9};
        for (int i = 0; i < columns.length; i++) {
            x.found(48 + columns[i], 0, 1 + i % 2);
        }
        Check.yes("steps 1 2 1 2 of two guns", isTrue(x, "held 4"));
        Check.no("a step of 3 behind steps of 1", isTrue(x, "held 5"));
    }

    private static void promise38HeldInSomeRow() {
        for (int row : new int[] {0, 15}) {
            GrassField x = field();
            x.found(16 * row, 0, 1);
            x.found(16 * row + 1, 0, 1);
            x.found(16 * row + 2, 0, 1);
            x.found(16 * 7, 0, 1);
            x.found(16 * 7 + 1, 0, 1);
            Check.yes("two steps in row " + row, isTrue(x, "held 2"));
            Check.no("three steps in row " + row, isTrue(x, "held 3"));
        }
    }

    private static void promise38LessAndMoreAreStrict() {
        GrassField x = field();
        x.found(0, 0, 1);
        x.found(0, 0, 1);
        Check.no("cases < 2", isTrue(x, "cases < 2"));
        Check.no("cases > 2", isTrue(x, "cases > 2"));
        Check.yes("cases < 3", isTrue(x, "cases < 3"));
        Check.yes("cases > 1", isTrue(x, "cases > 1"));
        Check.no("2*cases + guns + 1 > 6", isTrue(x, "2*cases + guns + 1 > 6"));
        GrassField y = field();
        y.found(0, 0, 1);
        Check.yes("999*cases > 998", isTrue(y, "999*cases > 998"));
    }

    private static void promise38HeldAmongOthers() {
        GrassField x = field();
        for (int column = 0; column < 4; column++) {
            x.found(32 + column, 0, 1);
        }
        Check.yes("held and a fact", isTrue(x, "held 3 and cases > 3"));
        Check.yes("a fact and held", isTrue(x, "cases > 3 and held 3"));
        Check.no("held too many and a fact", isTrue(x, "held 4 and cases > 3"));
        Check.yes("held too many or a fact", isTrue(x, "held 4 or cases > 3"));
        Check.no("not held", isTrue(x, "not held 3"));
        Check.yes("not held too many", isTrue(x, "not held 4"));
        Check.yes("and ahead of or", isTrue(x, "held 3 or held 4 and held 5"));
        Check.no("( ) ahead of and", isTrue(x, "(held 3 or held 4) and held 5"));
    }

    private static void promise38Of120Finds() {
        GrassField x = field();
        for (int i = 0; i < 117; i++) {
            x.found(16 * (i % 3) + i / 3 % 13, 0, 1);
        }
        x.other(1, 0, 0, 1);
        x.other(2, 0, 0, 1);
        x.other(3, 0, 0, 1900);
        Check.yes("kinds", isTrue(x, "cases > 116 and balls > 0 and bones > 0 and later > 0"));
        Check.no("no more of them", isTrue(x, "cases > 117 or balls > 1 or bones > 1 or later > 1"));
        Check.yes("guns, and steps of one row", isTrue(x, "guns > 0 and guns < 2 and held 12 and not held 13"));
        GrassField y = field();
        for (int i = 0; i < 120; i++) {
            y.found(i % 30, 0, 1);
        }
        Check.yes("30 heaps of 4", isTrue(y, "heaps > 29 and heaps < 31"));
    }

    private static void promise38OfAWholeTape() {
        Check.yes("197 is below 198", isTrue(new GrassField(), "197<1" + "+1".repeat(197) + " "));
        Check.no("198 is not below 198", isTrue(new GrassField(), "198<1" + "+1".repeat(197) + " "));
        Check.yes("2 is below 199", isTrue(new GrassField(), " 2<1" + "+1".repeat(198)));
        Check.no("199 is not below 1", isTrue(new GrassField(), "1" + "+1".repeat(198) + "<1"));
    }

    private static void promise38ItIsAskedAnewEachTime() {
        GrassField x = field();
        Check.story(x, "cases > 0", 1);
        Check.no("nothing is found", x.holds(0));
        x.found(0, 5, 1);
        Check.yes("a case", x.holds(0));
        x.machine(4, 0);
        Check.no("it is not seen", x.holds(0));
    }

    // ---- 39: odds

    private static void promise39StoriesAreThoseThatThereAre() {
        GrassField none = new GrassField();
        Check.refuses("story 0 of none", Check.INDEX, () -> none.odds(0));
        Check.refuses("story 5 of 5", Check.INDEX, () -> fiveStories("").odds(5));
        for (int wrong : new int[] {-1, 2, LEAST, GREATEST}) {
            Check.leaves("story " + wrong + " of 2", Check.INDEX, x -> x.odds(wrong));
        }
    }

    private static void promise39RoundedDown() {
        int[] due = {666, 1333, 2000, 2666, 3333};
        for (int i = 0; i < 5; i++) {
            Check.is("weight " + (i + 1) + " of 15", fiveStories("").odds(i), due[i]);
        }
    }

    private static void promise39AloneItIsAll() {
        for (int weight : new int[] {1, 99}) {
            GrassField x = new GrassField();
            Check.story(x, "cases < 1", weight);
            Check.is("weight " + weight, x.odds(0), 10000);
        }
    }

    private static void promise39WhatDoesNotHoldHas0AndCountsNothing() {
        GrassField x = new GrassField();
        Check.story(x, "cases < 1", 1);
        Check.story(x, "cases > 0", 99);
        Check.story(x, "cases < 1", 3);
        Check.is("one that holds", x.odds(0), 2500);
        Check.is("one that does not", x.odds(1), 0);
        Check.is("another one that holds", x.odds(2), 7500);
    }

    private static void promise39IfNoneHoldsAllHave0() {
        GrassField x = new GrassField();
        Check.story(x, "cases > 0", 1);
        Check.story(x, "cases > 0", 99);
        Check.is("the first", x.odds(0), 0);
        Check.is("the second", x.odds(1), 0);
    }

    private static void promise39TheLeastAndTheGreatest() {
        GrassField x = new GrassField();
        Check.story(x, "cases < 1", 1);
        for (int i = 0; i < 4; i++) {
            Check.story(x, "cases < 1", 99);
        }
        Check.is("1 of 397", x.odds(0), 25);
        Check.is("99 of 397", x.odds(4), 2493);
    }

    // ---- 40: image, 41: back

    private static void promise40ItKeepsAllAsItIs() {
        GrassField x = Rich.make();
        x.image();
        Check.alike("image()", Rich.printButTape(x), printOfKept());
    }

    /** What Rich prints ends with back(): here to a field with both rows walked. */
    private static List<String> printOfKept() {
        GrassField x = Rich.make();
        x.back();
        x.walk(15);
        x.image();
        return Rich.printButTape(x);
    }

    private static void promise40OnlyTheLatestIsKept() {
        GrassField x = new GrassField();
        x.image();
        x.walk(1);
        x.image();
        x.walk(2);
        x.back();
        Check.is("rows walked", x.count(10), 1);
        x.back();
        Check.is("once more", x.count(10), 1);
    }

    private static void promise40OfANewObject() {
        GrassField x = new GrassField();
        x.image();
        x.ground(0, 255, 9);
        x.gun(0, 0, 1870, 40);
        Check.law(x, "drop");
        x.person(0, 0, 9, 0);
        x.day(1800);
        x.seed(1);
        x.run(60);
        x.found(0, 0, 1);
        x.machine(0, 3);
        x.walk(0);
        x.teller(0, 0, 0, 0);
        x.tells(0, 0, 0);
        Check.story(x, "cases > 0", 9);
        Check.yes("back", x.back());
        GrassField fresh = new GrassField();
        fresh.image();
        Check.alike("back to the begin", Rich.print(x), Rich.print(fresh));
    }

    private static void promise40OfAFullOne() {
        GrassField x = new GrassField();
        for (int i = 0; i < 8; i++) {
            x.gun(i % 2, i, 1870, i);
            x.person(i, i, i, GrassField.NONE);
            x.teller(i, i, 239, i);
        }
        for (int i = 0; i < 20; i++) {
            x.tells(i % 8, i, i);
        }
        for (int i = 0; i < 120; i++) {
            x.found(i, i % 10, 1 << i % 16);
        }
        for (int i = 0; i < 5; i++) {
            Check.story(x, "cases > " + i, i + 1);
        }
        for (int i = 0; i < 4; i++) {
            Check.law(x, "drop");
        }
        x.walk(0);
        x.walk(7);
        x.image();
        x.walk(1);
        x.when(119, 3, 4);
        Check.yes("back", x.back());
        int[] due = {8, 8, 8, 4, 120, 24, 0, 8, 20, 5, 2, 28};
        for (int what = 0; what < 12; what++) {
            Check.is("count(" + what + ")", x.count(what), due[what]);
        }
        Check.is("the last find", x.about(119, 6), 0);
        Check.is("its cell", x.about(119, 1), 119);
        Check.is("its marks", x.about(119, 3), 1 << 7);
        Check.yes("the last telling", x.could(19, false));
        Check.is("the last story", x.odds(4), 3333);
        Check.refuses("no room for a gun", Check.FULL, () -> x.gun(0, 0, 1870, 0));
    }

    private static void promise41WithoutAnImageNothingHappens() {
        GrassField x = new GrassField();
        x.walk(0);
        x.gun(0, 0, 1870, 3);
        x.found(0, 0, 1);
        Check.tape(x, Rich.TAPE);
        Check.no("back", x.back());
        Check.no("and again", x.back());
        Check.is("rows walked", x.count(10), 1);
        Check.is("guns", x.count(0), 1);
        Check.is("finds", x.count(4), 1);
        Check.yes("the tape", x.end(Rich.TAPE.length()));
    }

    private static void promise41AsOftenAsOneLikes() {
        GrassField x = Rich.make();
        x.back();
        List<String> first = Rich.printButTape(x);
        GrassField y = Rich.make();
        for (int i = 0; i < 3; i++) {
            Check.yes("back", y.back());
            y.ground(0, 255, i);
            y.walk(3 + i);
            y.run(1);
            y.found(0, 0, 1);
            y.other(3, 0, 0, 1999);
        }
        Check.yes("back", y.back());
        Check.alike("back", Rich.printButTape(y), first);
    }

    private static void promise41TheTapeStaysAsItIs() {
        GrassField x = new GrassField();
        Check.tape(x, "hold");
        x.image();
        x.end(2);
        Check.yes("back", x.back());
        Check.no("what was cut has not come again", x.end(3));
        Check.tape(x, "");
        x.feed(-1, -1, -1, -1, -1);
        Check.yes("back", x.back());
        Check.yes("what came is there still", x.end(20));
    }

    private static void promise41FaultStaysAsItIs() {
        GrassField x = new GrassField();
        Check.tape(x, "hold?");
        Check.refuses("a wrong law", Check.ARGUMENT, () -> x.law());
        x.image();
        Check.law(x, "hold");
        Check.yes("back", x.back());
        Check.is("none", x.fault(), GrassField.NONE);
        Check.is("no law", x.count(3), 0);
    }

    private static void promise41TheImageStaysAsItIs() {
        GrassField x = new GrassField();
        x.walk(0);
        x.image();
        Check.yes("back", x.back());
        x.walk(1);
        x.found(0, 0, 1);
        Check.yes("it is kept still", x.back());
        Check.is("rows walked", x.count(10), 1);
        Check.is("finds", x.count(4), 0);
    }

    private static void promise41WhatIsChangedBehindDoesNotChangeTheImage() {
        GrassField x = Rich.make();
        x.back();
        x.when(2, 100, 101);
        x.run(1);
        x.ground(0, 0, 9);
        x.back();
        Check.is("minutes of a case", x.about(2, 6), 3);
        Check.is("minutes gone", x.count(6), 3);
        Check.is("height", x.height(0), 0);
    }

    private static void promise41PeopleComeBack() {
        GrassField x = new GrassField();
        for (int i = 0; i < 3; i++) {
            x.gun(i % 2, i, 1870, 5);
        }
        Check.law(x, "drop");
        Check.law(x, "flee if minute > 1;shoot");
        x.person(0, 100, 5, 0);
        x.person(1, 102, 5, 1);
        x.person(2, 104, 5, GrassField.NONE);
        x.image();
        x.run(2);
        Check.is("no gun", x.look(0, 0), GrassField.NONE);
        Check.is("one fell", x.count(2), 2);
        Check.no("fear has moved", x.look(1, 2) == 5);
        Check.no("one has gone", x.look(1, 1) == 102);
        Check.is("rounds", x.count(11), 14);
        Check.yes("back", x.back());
        Check.is("its gun", x.look(0, 0), 0);
        Check.is("all are living", x.count(2), 3);
        Check.is("fear", x.look(1, 2), 5);
        Check.is("cell", x.look(1, 1), 102);
        Check.is("rounds", x.count(11), 15);
        Check.is("finds", x.count(4), 0);
        Check.refuses("its gun is had again", Check.ARGUMENT, () -> x.person(0, 0, 0, GrassField.NONE));
    }

    private static void promise41MinutesOfCasesComeBack() {
        GrassField x = new GrassField();
        x.found(0, 0, 1);
        x.when(0, 3, 4);
        x.image();
        x.when(0, 5, 6);
        x.found(0, 0, 1);
        x.when(1, 7, 8);
        Check.yes("back", x.back());
        Check.is("from", x.about(0, 6), 3);
        Check.is("till", x.about(0, 7), 4);
        Check.is("a new find", x.found(9, 0, 1), 1);
        Check.is("from at first", x.about(1, 6), 0);
        Check.is("till at first", x.about(1, 7), 239);
    }

    private static void promise41WhatComesBehindItIsNew() {
        GrassField x = new GrassField();
        x.image();
        x.gun(0, 1, 1870, 1);
        x.person(0, 0, 1, Check.law(x, "drop"));
        x.other(3, 1, 1, 1900);
        x.teller(1, 1, 1, 1);
        x.tells(0, 1, 1);
        Check.story(x, "cases > 5", 1);
        x.run(1);
        Check.yes("back", x.back());
        Check.is("a gun", x.gun(1, 2, 1880, 2), 0);
        Check.is("a law", Check.law(x, "hold"), 0);
        Check.is("a person", x.person(0, 200, 5, 0), 0);
        Check.is("a find", x.found(40, 2, 4), 0);
        Check.is("a teller", x.teller(40, 2, 239, 2), 0);
        Check.is("a telling", x.tells(0, 41, 239), 0);
        Check.is("a story", Check.story(x, "cases < 5", 2), 0);
        int[] person = {0, 200, 4, 1, 1, 0, 0, 0};
        int[] find = {0, 40, 2, 4, 0, 1, 0, 239};
        Check.is("the first minute", x.run(1), 1);
        for (int what = 0; what < 8; what++) {
            Check.is("look(0, " + what + ")", x.look(0, what), person[what]);
            Check.is("about(0, " + what + ")", x.about(0, what), find[what]);
        }
        Check.yes("could", x.could(0, false));
        Check.is("odds", x.odds(0), 10000);
        Check.is("rounds", x.count(11), 2);
    }

    private static void promise41TheSeedTheMinuteTheDayAndTheMachineComeBack() {
        GrassField x = new GrassField();
        x.gun(0, 0, 1880, 9);
        x.gun(1, 1, 1870, 0);
        Check.law(x, "shoot");
        x.person(0, 0, 0, 0);
        x.person(1, 9, 0, GrassField.NONE);
        x.machine(5, 2);
        x.day(1879);
        x.image();
        for (int i = 0; i < 2; i++) {
            Check.is("the first minute", x.run(1), 1);
            Check.is("the first draw from 0 falls 9 far", x.count(2), 1);
            x.walk(2);
            Check.is("2 wide", x.count(5), 3);
            Check.is("modern", x.later(1), 1);
            x.machine(0, 0);
            Check.is("0 deep, 0 wide", x.count(5), 0);
            x.day(1880);
            x.seed(1);
            Check.yes("back", x.back());
            Check.is("nobody fell", x.count(2), 2);
            Check.is("no minute has gone", x.count(6), 0);
            Check.is("no row is walked", x.count(10), 0);
        }
    }

    // ---- 42: count

    private static void promise42WhatGoesFrom0To11() {
        int[] due = {4, 3, 3, 2, 9, 8, 3, 2, 3, 2, 2, 22};
        GrassField x = Rich.make();
        for (int what = 0; what < 12; what++) {
            Check.is("count(" + what + ")", x.count(what), due[what]);
        }
    }

    private static void promise42OthersAreNone() {
        for (int what : new int[] {-1, 12, 13, LEAST, GREATEST}) {
            Check.is("count(" + what + ")", Rich.make().count(what), GrassField.NONE);
        }
    }

    private static void promise42TheLivingAreFewerThanPeople() {
        GrassField x = new GrassField();
        x.gun(0, 0, 1870, 9);
        x.gun(1, 1, 1870, 0);
        x.person(0, 0, 0, Check.law(x, "shoot"));
        x.person(1, 0, 0, GrassField.NONE);
        x.run(1);
        Check.is("people", x.count(1), 2);
        Check.is("living", x.count(2), 1);
        Check.is("rounds", x.count(11), 8);
        Check.is("finds", x.count(4), 3);
        Check.is("seen", x.count(5), 0);
    }

    private static void promise42AllRoundsOfAllGunsHadOrNot() {
        GrassField x = new GrassField();
        for (int i = 0; i < 8; i++) {
            x.gun(0, 0, 1870, 40);
        }
        Check.is("the most", x.count(11), 320);
        x.person(0, 0, 0, Check.law(x, "drop"));
        x.run(1);
        Check.is("those of a gun that was dropped too", x.count(11), 320);
    }
}
