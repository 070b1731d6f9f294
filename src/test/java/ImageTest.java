/** Promises 1, 40, 41, 42: a new object, the image, and what is counted. */
public final class ImageTest {
    public static void main(String[] args) {
        newObject();
        counts();
        backWithoutAnImage();
        backToAll();
        whatTheImageLeaves();
        newImage();
        Check.finish("ImageTest");
    }

    private static void newObject() {
        GrassField x = new GrassField();
        for (int what = 0; what < 12; what++) {
            Check.is("count(" + what + ")", x.count(what), 0);
        }
        for (int cell = 0; cell < 256; cell++) {
            Check.is("height(" + cell + ")", x.height(cell), 0);
        }
        Check.is("fault", x.fault(), GrassField.NONE);
        Check.no("back", x.back());
        Check.is("next", x.next(), 0);
        Check.is("needed", x.needed(0, 255), 0);
        Check.is("apart", x.apart(), 0);
        Check.is("still", x.still(0, 255), 0);
        Check.is("later", x.later(0), 0);
        Check.is("heaps", x.heaps(1, false), 0);
        Check.no("an empty tape", x.end(1));
        Check.is("seed 0: the first draw hits 9 far", shotWith(new GrassField(), false), 1);
        Check.is("as seed(0) does", shotWith(new GrassField(), true), 1);
    }

    private static int shotWith(GrassField x, boolean seeds) {
        x.gun(0, 0, 1870, 1);
        x.gun(1, 0, 1870, 0);
        Check.law(x, "shoot");
        x.person(0, 0, 0, 0);
        x.person(1, 9, 0, -1);
        if (seeds) {
            x.seed(0);
        }
        x.run(1);
        return x.count(2);
    }

    private static GrassField full() {
        GrassField x = new GrassField();
        x.ground(3, 3, 5);
        x.gun(0, 1, 1870, 9);
        x.gun(1, 2, 1870, 8);
        x.day(1880);
        Check.law(x, "shoot if minute > 4;hold");
        x.person(0, 0, 3, 0);
        x.person(1, 12, 3, -1);
        x.seed(77);
        x.run(3);
        x.found(1, 0, 2);
        x.found(40, 8, 2);
        x.machine(7, 1);
        x.walk(0);
        x.teller(0, 0, 9, 3);
        x.tells(0, 1, 3);
        Check.story(x, "cases > 0", 7);
        return x;
    }

    /** By some calls, so that a field can be printed more than once within its 512 calls. */
    private static long print(GrassField x) {
        long sum = 17;
        for (int what = 0; what < 12; what++) {
            sum = sum * 31 + x.count(what);
        }
        for (int cell = 3; cell < 256; cell += 21) {
            sum = sum * 31 + x.height(cell);
        }
        for (int p = 0; p < x.count(1); p++) {
            for (int what = 0; what < 8; what++) {
                sum = sum * 31 + x.look(p, what);
            }
        }
        for (int f = 0; f < x.count(4) && f < 4; f++) {
            for (int what = 0; what < 8; what++) {
                sum = sum * 31 + x.about(f, what);
            }
        }
        for (int i = 0; i < x.count(9); i++) {
            sum = sum * 31 + x.odds(i);
        }
        for (int i = 0; i < x.count(8); i++) {
            sum = sum * 31 + (x.could(i, true) ? 1 : 0);
        }
        return sum * 31 + x.later(0);
    }

    private static void counts() {
        GrassField x = full();
        int[] due = {2, 2, 2, 1, 2, 1, 3, 1, 1, 1, 1, 17};
        for (int what = 0; what < 12; what++) {
            Check.is("count(" + what + ")", x.count(what), due[what]);
        }
        Check.is("count(12)", x.count(12), GrassField.NONE);
        Check.is("count(-1)", x.count(-1), GrassField.NONE);
    }

    private static void backWithoutAnImage() {
        GrassField x = full();
        long before = print(x);
        Check.no("back", x.back());
        Check.is("nothing has happened", print(x), before);
    }

    private static void backToAll() {
        GrassField x = full();
        long before = print(x);
        x.image();
        for (int i = 0; i < 2; i++) {
            x.ground(0, 255, 2);
            x.gun(1, 3, 1900, 4);
            x.day(1990);
            Check.law(x, "drop");
            x.person(2, 3, 3, 1);
            x.run(20);
            x.seed(5);
            x.found(0, 0, 9);
            x.when(0, 3, 4);
            x.other(3, 1, 0, 1999);
            x.machine(2, 2);
            x.walk(5);
            x.teller(5, 0, 239, 1);
            x.tells(1, 0, 0);
            Check.story(x, "balls > 0", 3);
            Check.is("all is another one", x.count(0), 3);
            Check.yes("back", x.back());
            Check.is("all is as it was", print(x), before);
        }
        peopleComeBack();
        GrassField y = full();
        x.run(30);
        y.run(30);
        Check.is("laws and draws go on alike", print(x), print(y));
    }

    /** One flees, one shoots and drops its gun, one falls: all stand again as they stood. */
    private static void peopleComeBack() {
        GrassField x = new GrassField();
        x.gun(0, 1, 1870, 9);
        x.gun(1, 2, 1870, 8);
        x.gun(0, 3, 1870, 7);
        Check.law(x, "flee");
        Check.law(x, "shoot if minute < 2;drop");
        x.person(0, 100, 3, 0);
        x.person(1, 103, 3, 1);
        x.person(2, 104, 3, -1);
        long before = print(x);
        x.image();
        for (int i = 0; i < 2; i++) {
            x.run(4);
            Check.no("one fled", x.look(0, 1) == 100);
            Check.is("one has no gun", x.look(1, 0), GrassField.NONE);
            Check.is("one fell", x.look(2, 3), 0);
            Check.is("a case, a ball and bones behind what was found", x.count(4), 3 + 2 * i);
            Check.yes("back", x.back());
            Check.is("all stand again", print(x), before);
            x.found(7, 7, 7);
            x.other(3, 8, 8, 1888);
        }
        Check.yes("back", x.back());
        x.run(4);
        Check.is("what is left anew is a case", x.about(0, 0), 0);
        Check.is("where it was shot", x.about(0, 1), 103);
        Check.is("at its depth", x.about(0, 2), 1);
        Check.is("with its mark", x.about(0, 3), 4);
    }

    private static void whatTheImageLeaves() {
        GrassField x = new GrassField();
        x.image();
        x.feed(0x666c6565, 0, 0, 0, 0);
        Check.yes("back", x.back());
        Check.yes("the tape is left", x.end(4));
        Check.is("law", x.law(), 0);
        Check.tape(x, "flee ?");
        Check.refuses("law", Check.ARGUMENT, () -> x.law());
        Check.yes("back again", x.back());
        Check.is("no law", x.count(3), 0);
        Check.is("fault is left", x.fault(), 5);
    }

    private static void newImage() {
        GrassField x = new GrassField();
        x.image();
        x.walk(1);
        x.image();
        x.walk(2);
        Check.yes("back", x.back());
        Check.is("to the latest one", x.count(10), 1);
        Check.yes("back", x.back());
        Check.is("and once more", x.count(10), 1);
    }
}
