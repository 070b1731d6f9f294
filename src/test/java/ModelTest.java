import java.util.Random;

/** All promises: runs of chance calls, each answer and exception as that of the plain model. */
public final class ModelTest {
    private static final int RUNS = 1500;
    private static final String[] NAMES = {"feed", "end", "ground", "height", "sees", "gun", "day", "law", "fault",
        "person", "look", "seed", "run", "found", "other", "about", "when", "machine", "walk", "next", "needed",
        "same", "later", "way", "held", "heaps", "length", "still", "teller", "tells", "could", "talked", "apart",
        "who", "joined", "story", "holds", "odds", "image", "back", "count"};
    private static final String[] WORDS = {"shoot", "flee", "join", "hold", "drop", "if", "and", "or", "not",
        "armed", "alone", "foes", "friends", "fear", "minute", "height", "rounds", "far", "held", "cases", "balls",
        "bones", "later", "guns", "fits", "heaps", "(", ")", "<", ">", "+", "*", ";", "1", "12", "123", "1234", "x", "?"};
    private static final String[] LAW_FACTS = {"foes", "friends", "fear", "minute", "height", "rounds", "far"};
    private static final String[] STORY_FACTS = {"cases", "balls", "bones", "later", "guns", "fits", "heaps"};

    private final Random chance;
    private final GrassField field = new GrassField();
    private final Model model = new Model();
    private final StringBuilder told = new StringBuilder();
    private final int span;
    private final int wrongInputs;
    private final int theme;
    /** Nothing is promised of an object behind its 512th call. */
    private static final int MOST_CALLS = 512;
    private int made = 0;

    private ModelTest(long number) {
        chance = new Random(number);
        span = new int[] {1, 2, 4, 16}[chance.nextInt(4)];
        wrongInputs = new int[] {0, 40, 8}[chance.nextInt(3)];
        theme = chance.nextInt(THEMES.length);
    }

    public static void main(String[] args) {
        int runs = args.length > 0 ? Integer.parseInt(args[0]) : RUNS;
        int[] seen = new int[NAMES.length];
        for (int run = 0; run < runs; run++) {
            ModelTest test = new ModelTest(run);
            int calls = 40 + test.chance.nextInt(470);
            for (int i = 0; i < calls && test.made < MOST_CALLS; i++) {
                int call = test.pick(i);
                seen[call]++;
                if (!test.go(call)) {
                    System.out.println("run " + run + ":\n" + test.told);
                    System.exit(1);
                }
            }
        }
        for (int i = 0; i < NAMES.length; i++) {
            Check.yes(NAMES[i] + " was called", seen[i] > 0);
        }
        Check.finish("ModelTest");
    }

    /** What a run is mostly about: anything, cases, ways, tellers, the fight, bones. */
    private static final int[][] THEMES = {
        {},
        {13, 13, 13, 13, 13, 13, 20, 20, 21, 22, 24, 24, 25, 26, 27, 34, 36, 37, 17, 19},
        {13, 16, 16, 16, 23, 23, 2},
        {28, 29, 29, 29, 13, 30, 31, 31, 32, 32, 2, 4},
        {12, 12, 12, 9, 9, 10, 10, 10, 7, 11, 40, 15, 2},
        {14, 14, 33, 33, 33, 18}};

    private int pick(int i) {
        if (i < 14) {
            return new int[] {5, 5, 5, 5, 7, 9, 9, 28, 28, 18, 35, 13, 14, 2}[i];
        }
        if (theme > 0 && i < 14 + span) {
            return 18;
        }
        if (theme > 0 && chance.nextInt(8) > 0) {
            return THEMES[theme][chance.nextInt(THEMES[theme].length)];
        }
        int call = chance.nextInt(NAMES.length);
        // what makes all else new comes less often
        if ((call == 39 || call == 40) && chance.nextInt(4) > 0) {
            return 13 + chance.nextInt(2);
        }
        return call;
    }

    private boolean wild() {
        return wrongInputs > 0 && chance.nextInt(wrongInputs * 3) == 0;
    }

    private int any(int least, int greatest) {
        if (wild()) {
            int[] odd = {least - 1, greatest + 1, -1, Integer.MIN_VALUE, Integer.MAX_VALUE, 0, 1 << 20};
            return odd[chance.nextInt(odd.length)];
        }
        return least + chance.nextInt(Math.max(1, greatest - least + 1));
    }

    private int number(int size) {
        return size == 0 ? any(0, 0) : any(0, size - 1);
    }

    private int cell() {
        if (chance.nextInt(8) == 0) {
            return any(0, 255);
        }
        return 16 * chance.nextInt(span) + chance.nextInt(Math.max(4, span)) + (wild() ? 250 : 0);
    }

    private int marks() {
        int bits = 1 << chance.nextInt(theme == 2 ? 3 : 8);
        while (chance.nextInt(theme == 0 ? 3 : 6) == 0) {
            bits |= 1 << chance.nextInt(16);
        }
        return wild() ? any(1, 65535) : bits;
    }

    private interface Call {
        long on(GrassField x, Model m);
    }

    private static long one(boolean b) {
        return b ? 1 : 0;
    }

    private static String of(Call call, GrassField x, Model m) {
        try {
            return String.valueOf(call.on(x, m));
        } catch (RuntimeException e) {
            return "throws." + e.getClass().getSimpleName();
        }
    }

    private boolean same(String name, Call call) {
        if (made == MOST_CALLS) {
            return true;
        }
        made++;
        String got = of(call, field, null);
        String want = of(call, null, model);
        told.append(name).append(" => ").append(got).append('\n');
        if (!got.equals(want)) {
            told.append("due is ").append(want).append('\n');
        }
        return got.equals(want);
    }

    private boolean go(int call) {
        if (call < 20) {
            return goEarly(call);
        }
        return call < 29 ? goCases(call) : goLate(call);
    }

    private boolean text(boolean isLaw) {
        String text = isLaw ? law() : condition(STORY_FACTS, 0);
        if (chance.nextInt(4) == 0) {
            text = spoil(text);
        }
        if (chance.nextInt(30) == 0) {
            text = "  ".repeat(chance.nextInt(3));
        }
        text = text.length() > 400 ? text.substring(0, 400) : text;
        boolean right = same("end(0)", (x, m) -> one(x != null ? x.end(0) : m.end(0)));
        for (int at = 0; at < text.length(); at += 20) {
            int[] n = new int[5];
            for (int i = 0; i < 20; i++) {
                n[i / 4] = n[i / 4] << 8 | (at + i < text.length() ? text.charAt(at + i) & 255 : chance.nextInt(256));
            }
            right &= feed(n[0], n[1], n[2], n[3], n[4]);
        }
        int length = text.length();
        told.append("text '").append(text).append("'\n");
        return right & same("end(" + length + ")", (x, m) -> one(x != null ? x.end(length) : m.end(length)));
    }

    private String law() {
        StringBuilder s = new StringBuilder();
        int lines = 1 + chance.nextInt(chance.nextInt(6) == 0 ? 11 : 4);
        for (int i = 0; i < lines; i++) {
            s.append(i > 0 ? blank(";") : "").append(WORDS[chance.nextInt(5)]);
            if (chance.nextInt(4) > 0) {
                s.append(" if ").append(condition(LAW_FACTS, 0));
            }
        }
        return s.toString();
    }

    private String blank(String sign) {
        return " ".repeat(chance.nextInt(2)) + sign + " ".repeat(chance.nextInt(2));
    }

    private String condition(String[] facts, int deep) {
        int parts = chance.nextInt(3) == 0 ? 2 + chance.nextInt(3) : 1;
        StringBuilder s = new StringBuilder(atom(facts, deep));
        for (int i = 1; i < parts; i++) {
            s.append(chance.nextBoolean() ? " and " : " or ").append(atom(facts, deep));
        }
        return s.toString();
    }

    private String atom(String[] facts, int deep) {
        int kind = chance.nextInt(7);
        if (kind == 0 && deep < 8) {
            return "not " + atom(facts, deep + 1);
        }
        if (kind == 1 && deep < 8) {
            return blank("(") + condition(facts, deep + 1) + blank(")");
        }
        if (kind == 2) {
            return facts == STORY_FACTS ? "held " + chance.nextInt(4) : chance.nextBoolean() ? "armed" : "alone";
        }
        return sum(facts) + blank(chance.nextBoolean() ? "<" : ">") + sum(facts);
    }

    private String sum(String[] facts) {
        StringBuilder s = new StringBuilder();
        int parts = chance.nextInt(3) == 0 ? 2 : 1;
        for (int i = 0; i < parts; i++) {
            String fact = facts[chance.nextInt(facts.length)];
            int kind = chance.nextInt(4);
            s.append(i > 0 ? blank("+") : "");
            s.append(kind == 0 ? chance.nextInt(4) + blank("*") + fact : kind == 1 ? "" + chance.nextInt(12) : fact);
        }
        return s.toString();
    }

    private String spoil(String text) {
        int at = chance.nextInt(text.length() + 1);
        switch (chance.nextInt(4)) {
            case 0:
                return text.substring(0, at);
            case 1:
                return text.substring(0, at) + WORDS[chance.nextInt(WORDS.length)] + text.substring(at);
            case 2:
                return text.substring(0, at) + " " + WORDS[chance.nextInt(WORDS.length)] + " " + text.substring(at);
            default:
                return text.substring(0, at) + (char) chance.nextInt(256) + text.substring(Math.min(text.length(), at + 1));
        }
    }

    private boolean feed(int a, int b, int c, int d, int e) {
        return same("feed(" + a + ", " + b + ", " + c + ", " + d + ", " + e + ")",
            (x, m) -> x != null ? x.feed(a, b, c, d, e) : m.feed(a, b, c, d, e));
    }

    private static String list(String name, int... n) {
        StringBuilder s = new StringBuilder(name).append('(');
        for (int i = 0; i < n.length; i++) {
            s.append(i > 0 ? ", " : "").append(n[i]);
        }
        return s.append(')').toString();
    }

    private boolean goEarly(int call) {
        int a;
        int b;
        int c;
        int d;
        switch (call) {
            case 0:
                return feed(chance.nextInt(), chance.nextInt(), 0x666c6565, 0x20202020, chance.nextInt());
            case 1:
                a = any(-1, 60);
                return same(list("end", a), (x, m) -> one(x != null ? x.end(a) : m.end(a)));
            case 2:
                a = cell();
                b = cell();
                c = any(0, chance.nextInt(10));
                return same(list("ground", a, b, c), (x, m) -> {
                    if (x != null) {
                        x.ground(a, b, c);
                    } else {
                        m.ground(a, b, c);
                    }
                    return 0;
                });
            case 3:
                a = cell();
                return same(list("height", a), (x, m) -> x != null ? x.height(a) : m.height(a));
            case 4:
                a = any(0, 255);
                b = any(0, 255);
                return same(list("sees", a, b), (x, m) -> one(x != null ? x.sees(a, b) : m.sees(a, b)));
            case 5:
                a = any(0, 1);
                b = theme == 0 ? any(0, 7) : wild() ? 16 : model.count(0) % 8;
                c = any(1870, 1885);
                d = any(0, 40);
                return same(list("gun", a, b, c, d), (x, m) -> x != null ? x.gun(a, b, c, d) : m.gun(a, b, c, d));
            case 6:
                a = any(1868, 1887);
                return same(list("day", a), (x, m) -> {
                    if (x != null) {
                        x.day(a);
                    } else {
                        m.day(a);
                    }
                    return 0;
                });
            case 7:
                return (chance.nextInt(10) == 0 || text(true)) && same("law()", (x, m) -> x != null ? x.law() : m.law())
                    && same("fault()", (x, m) -> x != null ? x.fault() : m.fault());
            case 8:
                return same("fault()", (x, m) -> x != null ? x.fault() : m.fault());
            case 9:
                a = number(model.count(0));
                b = cell();
                c = any(0, 9);
                d = any(-1, model.count(3) - 1);
                return same(list("person", a, b, c, d), (x, m) -> x != null ? x.person(a, b, c, d) : m.person(a, b, c, d));
            case 10:
                a = number(model.count(1));
                b = any(0, 7);
                return same(list("look", a, b), (x, m) -> x != null ? x.look(a, b) : m.look(a, b));
            case 11:
                a = chance.nextInt();
                return same(list("seed", a), (x, m) -> {
                    if (x != null) {
                        x.seed(a);
                    } else {
                        m.seed(a);
                    }
                    return 0;
                });
            default:
                return goFinds(call);
        }
    }

    private boolean goFinds(int call) {
        int a;
        int b;
        int c;
        int d;
        switch (call) {
            case 12:
                a = any(1, chance.nextInt(8) == 0 ? 60 : 6);
                return same(list("run", a), (x, m) -> x != null ? x.run(a) : m.run(a));
            case 13:
                a = cell();
                b = any(0, 9);
                c = marks();
                return same(list("found", a, b, c), (x, m) -> x != null ? x.found(a, b, c) : m.found(a, b, c));
            case 14:
                a = any(1, 3);
                b = cell();
                c = any(0, 9);
                d = a == 1 ? any(0, 1) : a == 2 ? any(1, 255) & any(1, 255) : any(1868, 1887);
                return same(list("other", a, b, c, d), (x, m) -> x != null ? x.other(a, b, c, d) : m.other(a, b, c, d));
            case 15:
                a = number(model.count(4));
                b = any(0, 7);
                return same(list("about", a, b), (x, m) -> x != null ? x.about(a, b) : m.about(a, b));
            case 16:
                a = number(model.count(4));
                b = any(0, 30);
                c = chance.nextBoolean() ? any(b, b < 0 || b > 200 ? b : b + 20) : any(0, 239);
                return same(list("when", a, b, c), (x, m) -> {
                    if (x != null) {
                        x.when(a, b, c);
                    } else {
                        m.when(a, b, c);
                    }
                    return 0;
                });
            case 17:
                a = chance.nextBoolean() ? 9 : any(0, 9);
                b = any(0, 3);
                return same(list("machine", a, b), (x, m) -> {
                    if (x != null) {
                        x.machine(a, b);
                    } else {
                        m.machine(a, b);
                    }
                    return 0;
                });
            case 18:
                a = theme > 0 && !wild() ? model.count(10) % 16 : chance.nextBoolean() ? any(0, 15) : any(0, span - 1);
                return same(list("walk", a), (x, m) -> x != null ? x.walk(a) : m.walk(a));
            default:
                return same("next()", (x, m) -> x != null ? x.next() : m.next());
        }
    }

    private boolean goCases(int call) {
        int a;
        int b;
        int c;
        boolean f = chance.nextBoolean();
        switch (call) {
            case 20:
                a = cell();
                b = cell();
                return same(list("needed", a, b), (x, m) -> x != null ? x.needed(a, b) : m.needed(a, b));
            case 21:
                a = number(model.count(4));
                b = number(model.count(4));
                c = any(0, 1);
                return same(list("same", a, b, c), (x, m) -> x != null ? x.same(a, b, c) : m.same(a, b, c));
            case 22:
                a = any(0, 2);
                return same(list("later", a), (x, m) -> x != null ? x.later(a) : m.later(a));
            case 23:
                a = number(model.count(0));
                return same(list("way", a, 0), (x, m) -> x != null ? x.way(a, 0) : m.way(a, 0))
                    && same(list("way", a, 1), (x, m) -> x != null ? x.way(a, 1) : m.way(a, 1))
                    && same(list("way", a, 2), (x, m) -> x != null ? x.way(a, 2) : m.way(a, 2))
                    && (!wild() || same(list("way", a, 3), (x, m) -> x != null ? x.way(a, 3) : m.way(a, 3)));
            case 24:
                a = any(0, 1);
                b = any(0, Math.min(15, span));
                c = chance.nextInt(3) == 0 ? any(0, 15) : any(0, 2);
                return same(list("held", a, b, c) + f, (x, m) -> x != null ? x.held(a, b, c, f) : m.held(a, b, c, f));
            case 25:
                a = chance.nextInt(3) == 0 ? any(1, 99) : any(1, 4);
                return same(list("heaps", a) + f, (x, m) -> x != null ? x.heaps(a, f) : m.heaps(a, f));
            case 26:
                a = any(0, 1);
                b = any(1, 9);
                c = any(1, 9);
                return same(list("length", a, b, c) + f, (x, m) -> x != null ? x.length(a, b, c, f) : m.length(a, b, c, f));
            case 27:
                a = any(0, 255);
                b = cell();
                return same(list("still", a, b), (x, m) -> x != null ? x.still(a, b) : m.still(a, b));
            default:
                a = cell();
                b = theme == 3 ? any(0, 2) : any(0, 239);
                c = b < 0 || b > 239 ? b : any(b, 239);
                int d = any(0, 2);
                return same(list("teller", a, b, c, d), (x, m) -> x != null ? x.teller(a, b, c, d) : m.teller(a, b, c, d));
        }
    }

    private boolean goLate(int call) {
        int a;
        int b;
        int c;
        boolean f = chance.nextBoolean();
        switch (call) {
            case 29:
                a = number(model.count(7));
                b = cell();
                c = theme == 3 ? any(0, 40) : any(0, 239);
                return same(list("tells", a, b, c), (x, m) -> x != null ? x.tells(a, b, c) : m.tells(a, b, c));
            case 30:
                a = number(model.count(8));
                return same(list("could", a) + f, (x, m) -> one(x != null ? x.could(a, f) : m.could(a, f)));
            case 31:
                a = number(model.count(7));
                b = number(model.count(7));
                return same(list("talked", a, b), (x, m) -> one(x != null ? x.talked(a, b) : m.talked(a, b)));
            case 32:
                return same("apart()", (x, m) -> x != null ? x.apart() : m.apart());
            case 33:
                a = bones();
                return same(list("who", a), (x, m) -> x != null ? x.who(a) : m.who(a));
            case 34:
                a = cell();
                b = cell();
                c = cell();
                int d = cell();
                return same(list("joined", a, b, c, d) + f,
                    (x, m) -> x != null ? x.joined(a, b, c, d, f) : m.joined(a, b, c, d, f));
            case 35:
                a = any(1, 99);
                return text(false) && same(list("story", a), (x, m) -> x != null ? x.story(a) : m.story(a))
                    && same("fault()", (x, m) -> x != null ? x.fault() : m.fault());
            case 36:
                a = number(model.count(9));
                return same(list("holds", a), (x, m) -> one(x != null ? x.holds(a) : m.holds(a)));
            case 37:
                a = number(model.count(9));
                return same(list("odds", a), (x, m) -> x != null ? x.odds(a) : m.odds(a));
            case 38:
                return same("image()", (x, m) -> {
                    if (x != null) {
                        x.image();
                    } else {
                        m.image();
                    }
                    return 0;
                });
            case 39:
                return same("back()", (x, m) -> one(x != null ? x.back() : m.back()));
            default:
                a = any(0, 11);
                return same(list("count", a), (x, m) -> x != null ? x.count(a) : m.count(a));
        }
    }

    /** Some bones, if there are any: other finds are refused. */
    private int bones() {
        for (int i = 0; i < 20 && model.count(4) > 0; i++) {
            int find = chance.nextInt(model.count(4));
            if (model.about(find, 0) == 2) {
                return find;
            }
        }
        return number(model.count(4));
    }
}
