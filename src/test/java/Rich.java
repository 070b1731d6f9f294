import java.util.ArrayList;
import java.util.List;
import java.util.function.IntSupplier;

/** A field that has some of everything, and the answers by which two such fields are told apart. */
final class Rich {
    /** Its 18 bytes lie on the tape: a law that is wrong at 14. */
    static final String TAPE = "drop if far < 1234";

    private static final int[] CELLS = {0, 1, 2, 3, 4, 5, 15, 16, 17, 18, 19, 20, 21, 31, 32, 100, 136, 239, 240, 254, 255};

    private Rich() { }

    /** 4 guns (the last one nobody's), 2 laws, 3 people, 3 minutes gone, 9 finds, 2 tellers, 3 tellings, 2 stories. */
    static GrassField make() {
        GrassField x = new GrassField();
        x.ground(3, 20, 5);
        x.gun(0, 1, 1870, 9);
        x.gun(1, 2, 1880, 8);
        x.gun(0, 3, 1870, 0);
        x.gun(1, 4, 1870, 6);
        x.day(1878);
        Check.law(x, "shoot if minute > 2;hold");
        Check.law(x, "join if alone;flee");
        x.person(0, 0, 3, 0);
        x.person(1, 8, 3, GrassField.NONE);
        x.person(2, 100, 2, 1);
        x.seed(1);
        x.run(3);
        x.found(1, 0, 2);
        x.found(40, 8, 12);
        x.found(4, 3, 2);
        x.other(1, 17, 0, 1);
        x.other(2, 18, 2, 5);
        x.other(2, 19, 2, 6);
        x.other(3, 20, 0, 1900);
        x.when(2, 3, 9);
        x.machine(7, 1);
        x.walk(0);
        x.teller(0, 0, 9, 3);
        x.teller(5, 0, 9, 3);
        x.tells(0, 1, 3);
        x.tells(1, 1, 4);
        x.tells(1, 100, 9);
        Check.story(x, "cases > 0", 7);
        Check.story(x, "held 0 and not fits > 9", 3);
        x.image();
        x.walk(15);
        Check.tape(x, TAPE);
        return x;
    }

    static List<String> print(GrassField x) {
        List<String> all = new ArrayList<>();
        add(all, "fault()", x::fault);
        add(all, "end(19)", () -> x.end(TAPE.length() + 1) ? 1 : 0);
        add(all, "law()", x::law);
        add(all, "fault() behind it", x::fault);
        all.addAll(printButTape(x));
        return all;
    }

    /** What stands behind a minute and behind back() comes last: these change the field. */
    static List<String> printButTape(GrassField x) {
        List<String> all = new ArrayList<>();
        counts(all, x, "");
        for (int cell : CELLS) {
            add(all, "height(" + cell + ")", () -> x.height(cell));
        }
        people(all, x, "");
        for (int f : new int[] {0, 1, 2, 3, 4, 5, 6, 7, 8, 119}) {
            for (int what = 0; what < 8 && f < x.count(4); what++) {
                int asked = what;
                add(all, "about(" + f + ", " + what + ")", () -> x.about(f, asked));
            }
        }
        told(all, x);
        add(all, "run(2)", () -> x.run(2));
        counts(all, x, " two minutes later");
        people(all, x, " two minutes later");
        add(all, "back()", () -> x.back() ? 1 : 0);
        counts(all, x, " back again");
        return all;
    }

    private static void add(List<String> all, String call, IntSupplier answer) {
        String got;
        try {
            got = Integer.toString(answer.getAsInt());
        } catch (RuntimeException e) {
            got = "throws." + e.getClass().getSimpleName();
        }
        all.add(call + " answers " + got);
    }

    private static void counts(List<String> all, GrassField x, String when) {
        for (int what = 0; what < 12; what++) {
            int asked = what;
            add(all, "count(" + what + ")" + when, () -> x.count(asked));
        }
    }

    private static void people(List<String> all, GrassField x, String when) {
        for (int p = 0; p < x.count(1); p++) {
            for (int what = 0; what < 8; what++) {
                int person = p;
                int asked = what;
                add(all, "look(" + p + ", " + what + ")" + when, () -> x.look(person, asked));
            }
        }
    }

    private static void told(List<String> all, GrassField x) {
        for (int what = 0; what < 3; what++) {
            int asked = what;
            add(all, "later(" + what + ")", () -> x.later(asked));
            add(all, "way(0, " + what + ")", () -> x.way(0, asked));
            add(all, "could(" + what + ", false)", () -> x.could(asked, false) ? 1 : 0);
            add(all, "could(" + what + ", true)", () -> x.could(asked, true) ? 1 : 0);
            add(all, "holds(" + what + ")", () -> x.holds(asked) ? 1 : 0);
            add(all, "odds(" + what + ")", () -> x.odds(asked));
        }
        add(all, "talked(0, 1)", () -> x.talked(0, 1) ? 1 : 0);
        add(all, "needed(0, 255)", () -> x.needed(0, 255));
        add(all, "held(0, 0, 1, false)", () -> x.held(0, 0, 1, false));
        add(all, "heaps(1, false)", () -> x.heaps(1, false));
        add(all, "length(0, 1, 1, false)", () -> x.length(0, 1, 1, false));
        add(all, "still(0, 255)", () -> x.still(0, 255));
        add(all, "next()", x::next);
        add(all, "apart()", x::apart);
        add(all, "who(6)", () -> x.who(6));
    }
}
