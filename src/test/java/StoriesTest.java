/** Promises 37 to 39: stories, whether they hold, and their odds. */
public final class StoriesTest {
    public static void main(String[] args) {
        textsThatAreRight();
        textsThatAreWrong();
        weights();
        facts();
        heldRows();
        oddsOfStories();
        Check.finish("StoriesTest");
    }

    private static void right(String text) {
        GrassField x = new GrassField();
        Check.is("story '" + text + "'", Check.story(x, text, 1), 0);
        Check.is("fault of '" + text + "'", x.fault(), GrassField.NONE);
        Check.no("the tape behind '" + text + "'", x.end(1));
    }

    private static void wrong(String text, int place) {
        GrassField x = new GrassField();
        Check.tape(x, text);
        Check.refuses("story '" + text + "'", Check.ARGUMENT, () -> x.story(1));
        Check.is("fault of '" + text + "'", x.fault(), place);
        Check.is("stories behind '" + text + "'", x.count(9), 0);
        Check.no("the tape behind '" + text + "'", x.end(1));
    }

    private static void textsThatAreRight() {
        right("held 3");
        right("held3");
        right(" not held 999 ");
        right("2*cases+balls+bones>later+guns+fits+heaps");
        right("(held 1 or held 2)and cases<1");
    }

    private static void textsThatAreWrong() {
        wrong("", 0);
        wrong("   ", 3);
        wrong("held", 4);
        wrong("held ", 5);
        wrong("held x", 5);
        wrong("held 1000", 5);
        wrong("held cases", 5);
        wrong("held 1 2", 7);
        wrong("held 1;", 6);
        wrong("shoot", 0);
        wrong("if held 1", 0);
        wrong("armed", 0);
        wrong("foes > 1", 0);
        wrong("cases", 5);
        wrong("cases > held 1", 8);
        wrong("cases > 1 held 1", 10);
        wrong("(cases > 1", 10);
        wrong("cases > 1)", 9);
        wrong("not not not not not not not held 1", 24);
    }

    private static void weights() {
        GrassField x = new GrassField();
        Check.tape(x, "cases > 1");
        Check.refuses("weight 0", Check.ARGUMENT, () -> x.story(0));
        Check.is("fault of a right text", x.fault(), GrassField.NONE);
        Check.no("the tape is used up", x.end(1));
        Check.tape(x, "cases >");
        Check.refuses("weight 100, and a wrong text", Check.ARGUMENT, () -> x.story(100));
        Check.is("fault", x.fault(), 7);
        Check.tape(x, "cases > 1");
        Check.refuses("weight -1", Check.ARGUMENT, () -> x.story(-1));
        for (int i = 0; i < 5; i++) {
            Check.is("story " + i, Check.story(x, "cases < 1", i == 0 ? 1 : 99), i);
        }
        Check.tape(x, "cases < 1");
        Check.refuses("a 6th", Check.FULL, () -> x.story(1));
        Check.tape(x, "cases < 1");
        Check.refuses("a 6th of no weight", Check.ARGUMENT, () -> x.story(0));
        Check.tape(x, "cases < 1 or");
        Check.refuses("a wrong 6th", Check.ARGUMENT, () -> x.story(1));
        Check.is("fault of it", x.fault(), 12);
        Check.is("stories", x.count(9), 5);
    }

    private static GrassField field() {
        GrassField x = new GrassField();
        x.gun(0, 0, 1870, 0);
        x.gun(0, 1, 1880, 0);
        x.walk(0);
        x.walk(1);
        for (int i = 0; i < 4; i++) {
            x.found(0, 0, 1);
        }
        x.found(3, 0, 2);
        x.found(6, 0, 1 << 9);
        x.other(1, 0, 0, 1);
        x.other(1, 0, 0, 0);
        x.other(2, 1, 0, 1);
        x.other(3, 1, 0, 1800);
        x.other(3, 1, 0, 1900);
        x.other(3, 2, 0, 1900);
        x.found(32, 0, 2);
        x.other(1, 33, 0, 0);
        x.teller(5, 0, 9, 0);
        x.tells(0, 2, 3);
        x.tells(0, 3, 3);
        x.tells(0, 3, 30);
        x.tells(0, 14, 3);
        x.tells(0, 12, 3);
        return x;
    }

    private static boolean isTrue(String text) {
        GrassField x = field();
        return x.holds(Check.story(x, text, 1));
    }

    private static void facts() {
        Check.yes("cases", isTrue("cases > 5 and cases < 7"));
        Check.yes("balls", isTrue("balls > 1 and balls < 3"));
        Check.yes("bones", isTrue("bones > 0 and bones < 2"));
        Check.yes("later", isTrue("later > 2 and later < 4"));
        Check.yes("guns", isTrue("guns > 1 and guns < 3"));
        Check.yes("fits", isTrue("fits > 1 and fits < 3"));
        Check.yes("heaps", isTrue("heaps > 0 and heaps < 2"));
        Check.yes("a whole tape: 12 < 199", isTrue("12<1" + "+1".repeat(198)));
        Check.no("a whole tape: 199 < 198", isTrue("199<1" + "+1".repeat(197)));
        Check.yes("sums", isTrue("2*cases+balls > 13"));
        Check.no("sums", isTrue("2*cases+balls > 14"));
        GrassField x = new GrassField();
        Check.refuses("no story", Check.INDEX, () -> x.holds(0));
        Check.refuses("story -1", Check.INDEX, () -> x.holds(-1));
    }

    private static void heldRows() {
        Check.yes("one step", isTrue("held 1"));
        Check.no("two steps", isTrue("held 2"));
        Check.yes("no step", isTrue("held 0"));
        GrassField x = new GrassField();
        x.gun(0, 0, 1870, 0);
        x.gun(1, 1, 1870, 0);
        x.walk(7);
        x.walk(8);
        int[] side0 = {0, 2, 5, 8, 12};
        for (int column : side0) {
            x.found(16 * 7 + column, 0, 1);
        }
        for (int column = 0; column < 16; column++) {
            x.found(16 * 8 + column, 0, 2);
        }
        Check.story(x, "held 3", 1);
        Check.story(x, "held 4", 1);
        Check.yes("steps 2 3 3 4", x.holds(0));
        Check.no("steps 2 3 3 4", x.holds(1));
        Check.story(x, "held 0", 1);
        Check.yes("no step at all", x.holds(2));
    }

    private static void oddsOfStories() {
        GrassField x = field();
        Check.refuses("no story", Check.INDEX, () -> x.odds(0));
        Check.story(x, "cases > 0", 1);
        Check.is("alone", x.odds(0), 10000);
        Check.story(x, "cases > 0", 2);
        Check.is("a third, rounded down", x.odds(0), 3333);
        Check.is("two thirds, rounded down", x.odds(1), 6666);
        Check.story(x, "cases > 99", 50);
        Check.is("it does not hold", x.odds(2), 0);
        Check.is("and does not count", x.odds(1), 6666);
        Check.story(x, "later > 0", 99);
        Check.is("99 of 102", x.odds(3), 9705);
        Check.refuses("story 4", Check.INDEX, () -> x.odds(4));
        Check.refuses("story -1", Check.INDEX, () -> x.odds(-1));
        GrassField none = new GrassField();
        Check.story(none, "cases > 0", 9);
        Check.is("none holds", none.odds(0), 0);
    }
}
