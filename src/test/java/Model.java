import java.util.ArrayList;
import java.util.HashMap;
import java.util.HashSet;
import java.util.List;
import java.util.Map;
import java.util.NoSuchElementException;
import java.util.Set;

/** The document once more, written as plainly as it can be and without care for speed, to compare answers with. */
final class Model {
    record Gun(int side, int mark, int year) { }

    record Find(int kind, int cell, int depth, int n) { }

    record Teller(int cell, int from, int till, int listener) { }

    record Telling(int teller, int cell, int minute) { }

    record Story(List<String> words, int weight) { }

    /** A thing of a text: its signs and where it begins. */
    record Thing(String text, int begin) { }

    static final class Person {
        int gun;
        int side;
        int cell;
        int fear;
        int law;
        boolean lives = true;

        Person copy() {
            Person p = new Person();
            p.gun = gun;
            p.side = side;
            p.cell = cell;
            p.fear = fear;
            p.law = law;
            p.lives = lives;
            return p;
        }
    }

    static final class Held {
        int[] heights = new int[256];
        List<Gun> guns = new ArrayList<>();
        List<Integer> rounds = new ArrayList<>();
        List<Person> people = new ArrayList<>();
        List<List<String>> laws = new ArrayList<>();
        List<Find> finds = new ArrayList<>();
        List<int[]> minutes = new ArrayList<>();
        List<Teller> tellers = new ArrayList<>();
        List<Telling> tellings = new ArrayList<>();
        List<Story> stories = new ArrayList<>();
        Set<Integer> walked = new HashSet<>();
        int day = 1876;
        int seed = 0;
        int minute = 0;
        int depth = 9;
        int wide = 0;

        Held copy() {
            Held h = new Held();
            h.heights = heights.clone();
            h.guns.addAll(guns);
            h.rounds.addAll(rounds);
            people.forEach(p -> h.people.add(p.copy()));
            h.laws.addAll(laws);
            h.finds.addAll(finds);
            minutes.forEach(m -> h.minutes.add(m.clone()));
            h.tellers.addAll(tellers);
            h.tellings.addAll(tellings);
            h.stories.addAll(stories);
            h.walked.addAll(walked);
            h.day = day;
            h.seed = seed;
            h.minute = minute;
            h.depth = depth;
            h.wide = wide;
            return h;
        }
    }

    private Held now = new Held();
    private Held image = null;
    private String tape = "";
    private int fault = -1;

    // ---- exceptions

    private static void index(int n, int size) {
        if (n < 0 || n >= size) {
            throw new IndexOutOfBoundsException();
        }
    }

    private static void cells(int... cells) {
        for (int cell : cells) {
            index(cell, 256);
        }
    }

    private static void range(int n, int least, int greatest) {
        if (n < least || n > greatest) {
            throw new IllegalArgumentException();
        }
    }

    private static void argument(boolean right) {
        if (!right) {
            throw new IllegalArgumentException();
        }
    }

    private static void room(int size, int most) {
        if (size == most) {
            throw new UnsupportedOperationException();
        }
    }

    private static void what(int what, int last) {
        if (what < 0 || what > last) {
            throw new NoSuchElementException();
        }
    }

    // ---- the tape and its texts

    int feed(int a, int b, int c, int d, int e) {
        if (tape.length() > 380) {
            return -1;
        }
        StringBuilder s = new StringBuilder(tape);
        for (int n : new int[] {a, b, c, d, e}) {
            s.append((char) (n >>> 24)).append((char) (n >>> 16 & 255)).append((char) (n >>> 8 & 255)).append((char) (n & 255));
        }
        tape = s.toString();
        return tape.length();
    }

    boolean end(int n) {
        if (n < 0 || n > tape.length()) {
            return false;
        }
        tape = tape.substring(0, n);
        return true;
    }

    int fault() {
        return fault;
    }

    private static List<Thing> things(String text) {
        List<Thing> things = new ArrayList<>();
        java.util.regex.Matcher m = java.util.regex.Pattern.compile("[a-z]+|[0-9]+|[^ ]", java.util.regex.Pattern.DOTALL).matcher(text);
        while (m.find()) {
            things.add(new Thing(m.group(), m.start()));
        }
        return things;
    }

    private static final Set<String> ACTS = Set.of("shoot", "flee", "join", "hold", "drop");
    private static final Set<String> LAW_FACTS = Set.of("foes", "friends", "fear", "minute", "height", "rounds", "far");
    private static final Set<String> STORY_FACTS = Set.of("cases", "balls", "bones", "later", "guns", "fits", "heaps");

    /**
     * Goes through the things with what may come next, and a row of all that stands open; answers the first wrong
     * byte, or -1. (The class itself goes down by the rules of the text instead.)
     */
    private static int firstWrong(String text, boolean isLaw) {
        Set<String> facts = isLaw ? LAW_FACTS : STORY_FACTS;
        StringBuilder open = new StringBuilder();
        int lines = 0;
        boolean right = false; // of < or >
        String state = isLaw ? "line" : "atom";
        if (isLaw && text.isBlank() && text.replace(" ", "").isEmpty()) {
            return -1;
        }
        for (Thing thing : things(text)) {
            String t = thing.text();
            boolean number = t.matches("[0-9]{1,3}");
            String to = null;
            switch (state) {
                case "line":
                    if (ACTS.contains(t) && lines < 10) {
                        lines++;
                        to = "act";
                    }
                    break;
                case "act":
                    to = t.equals("if") ? "atom" : t.equals(";") ? "line" : null;
                    break;
                case "atom":
                    if (t.equals("not") || t.equals("(")) {
                        if (open.length() < 6) {
                            open.append(t.charAt(0));
                            to = "atom";
                        }
                    } else if (isLaw && (t.equals("armed") || t.equals("alone"))) {
                        to = "done";
                    } else if (!isLaw && t.equals("held")) {
                        to = "held";
                    } else if (number || facts.contains(t)) {
                        right = false;
                        to = number ? "number" : "fact";
                    }
                    break;
                case "held":
                    to = number ? "done" : null;
                    break;
                case "part":
                    to = number ? "number" : facts.contains(t) ? "fact" : null;
                    break;
                case "times":
                    to = facts.contains(t) ? "fact" : null;
                    break;
                case "number":
                case "fact":
                    if (t.equals("+")) {
                        to = "part";
                    } else if (t.equals("*") && state.equals("number")) {
                        to = "times";
                    } else if (!right && (t.equals("<") || t.equals(">"))) {
                        right = true;
                        to = "part";
                    } else if (right) {
                        to = behindAtom(t, open, isLaw);
                    }
                    break;
                default:
                    to = behindAtom(t, open, isLaw);
                    break;
            }
            if (to == null) {
                return thing.begin();
            }
            state = to;
        }
        boolean mayEnd = state.equals("act") || state.equals("done") || right && (state.equals("number") || state.equals("fact"));
        return mayEnd && open.indexOf("(") < 0 ? -1 : text.length();
    }

    private static String behindAtom(String t, StringBuilder open, boolean isLaw) {
        while (open.length() > 0 && open.charAt(open.length() - 1) == 'n') {
            open.setLength(open.length() - 1);
        }
        if (t.equals("and") || t.equals("or")) {
            return "atom";
        }
        if (t.equals(")") && open.length() > 0) {
            open.setLength(open.length() - 1);
            return "done";
        }
        return t.equals(";") && isLaw && open.length() == 0 ? "line" : null;
    }

    private List<String> read(boolean isLaw) {
        fault = firstWrong(tape, isLaw);
        List<String> words = new ArrayList<>();
        for (Thing thing : things(tape)) {
            words.add(thing.text());
        }
        tape = "";
        return words;
    }

    /** Whether a C holds: the weakest joint is looked for first. */
    private static boolean isTrue(List<String> words, Map<String, Integer> facts) {
        for (String joint : new String[] {"or", "and"}) {
            int deep = 0;
            for (int i = words.size() - 1; i >= 0; i--) {
                String t = words.get(i);
                deep += t.equals(")") ? 1 : t.equals("(") ? -1 : 0;
                if (deep == 0 && t.equals(joint)) {
                    boolean a = isTrue(words.subList(0, i), facts);
                    boolean b = isTrue(words.subList(i + 1, words.size()), facts);
                    return joint.equals("or") ? a || b : a && b;
                }
            }
        }
        String first = words.get(0);
        if (first.equals("not")) {
            return !isTrue(words.subList(1, words.size()), facts);
        }
        if (first.equals("(")) {
            return isTrue(words.subList(1, words.size() - 1), facts);
        }
        if (first.equals("held")) {
            return facts.get("held") >= Integer.parseInt(words.get(1));
        }
        if (words.size() == 1) {
            return facts.get(first) != 0;
        }
        int at = Math.max(words.indexOf("<"), words.indexOf(">"));
        int a = sum(words.subList(0, at), facts);
        int b = sum(words.subList(at + 1, words.size()), facts);
        return words.get(at).equals("<") ? a < b : a > b;
    }

    private static int sum(List<String> words, Map<String, Integer> facts) {
        int sum = 0;
        for (String part : String.join("", words).split("\\+")) {
            int product = 1;
            for (String factor : part.split("\\*")) {
                product *= factor.matches("[0-9]+") ? Integer.parseInt(factor) : facts.get(factor);
            }
            sum += product;
        }
        return sum;
    }

    int law() {
        List<String> words = read(true);
        argument(fault == -1);
        room(now.laws.size(), 4);
        now.laws.add(words);
        return now.laws.size() - 1;
    }

    // ---- the ground

    private static int far(int a, int b) {
        return Math.max(Math.abs(a % 16 - b % 16), Math.abs(a / 16 - b / 16));
    }

    private static boolean in(int cell, int a, int b) {
        int x = cell % 16;
        int y = cell / 16;
        return (x - a % 16) * (x - b % 16) <= 0 && (y - a / 16) * (y - b / 16) <= 0;
    }

    void ground(int from, int to, int height) {
        cells(from, to);
        range(height, 0, 9);
        for (int cell = 0; cell < 256; cell++) {
            if (in(cell, from, to)) {
                now.heights[cell] = height;
            }
        }
    }

    int height(int cell) {
        cells(cell);
        return now.heights[cell];
    }

    boolean sees(int from, int to) {
        cells(from, to);
        int far = far(from, to);
        for (int k = 1; k < far; k++) {
            int x = (int) Math.floor(from % 16 + (double) k * (to % 16 - from % 16) / far + 0.5 + 1e-9);
            int y = (int) Math.floor(from / 16 + (double) k * (to / 16 - from / 16) / far + 0.5 + 1e-9);
            if (now.heights[16 * y + x] * far > now.heights[from] * (far - k) + now.heights[to] * k) {
                return false;
            }
        }
        return true;
    }

    // ---- guns and people

    int gun(int side, int mark, int year, int rounds) {
        range(side, 0, 1);
        range(mark, 0, 15);
        range(year, 1800, 1999);
        range(rounds, 0, 40);
        room(now.guns.size(), 8);
        now.guns.add(new Gun(side, mark, year));
        now.rounds.add(rounds);
        return now.guns.size() - 1;
    }

    void day(int year) {
        range(year, 1800, 1999);
        now.day = year;
    }

    int person(int gun, int cell, int fear, int law) {
        index(gun, now.guns.size());
        cells(cell);
        index(law + 1, now.laws.size() + 1);
        range(fear, 0, 9);
        argument(now.people.stream().noneMatch(p -> p.gun == gun));
        room(now.people.size(), 8);
        Person p = new Person();
        p.gun = gun;
        p.side = now.guns.get(gun).side();
        p.cell = cell;
        p.fear = fear;
        p.law = law;
        now.people.add(p);
        return now.people.size() - 1;
    }

    private List<Person> foes(Person p) {
        return now.people.stream().filter(q -> q.lives && q.side != p.side).toList();
    }

    private List<Person> friends(Person p) {
        return now.people.stream().filter(q -> q.lives && q.side == p.side && q != p).toList();
    }

    private static int within(List<Person> them, int cell, int most) {
        return (int) them.stream().filter(q -> far(q.cell, cell) <= most).count();
    }

    private static Person nearest(List<Person> them, int cell) {
        return them.stream().min(java.util.Comparator.comparingInt(q -> far(q.cell, cell))).orElse(null);
    }

    int look(int person, int what) {
        index(person, now.people.size());
        what(what, 7);
        Person p = now.people.get(person);
        int[] all = {p.gun, p.cell, p.fear, p.lives ? 1 : 0, p.side, p.law,
            within(foes(p), p.cell, 3), within(friends(p), p.cell, 2)};
        return all[what];
    }

    void seed(int n) {
        now.seed = n;
    }

    int run(int minutes) {
        range(minutes, 1, 60);
        range(minutes + now.minute, 0, 239);
        for (int i = 0; i < minutes; i++) {
            now.minute++;
            for (Person p : now.people) {
                if (p.lives) {
                    turn(p);
                }
            }
        }
        return now.minute;
    }

    private void turn(Person p) {
        int foesNear = within(foes(p), p.cell, 3);
        int friendsNear = within(friends(p), p.cell, 2);
        p.fear = Math.max(0, Math.min(9, p.fear + foesNear - friendsNear));
        Person foe = nearest(foes(p), p.cell);
        Person friend = nearest(friends(p), p.cell);
        Map<String, Integer> facts = new HashMap<>();
        int rounds = p.gun < 0 ? 0 : now.rounds.get(p.gun);
        facts.put("foes", foesNear);
        facts.put("friends", friendsNear);
        facts.put("fear", p.fear);
        facts.put("minute", now.minute);
        facts.put("height", now.heights[p.cell]);
        facts.put("rounds", rounds);
        facts.put("far", foe == null ? 99 : far(foe.cell, p.cell));
        facts.put("armed", rounds > 0 ? 1 : 0);
        facts.put("alone", friendsNear == 0 ? 1 : 0);
        String act = p.law < 0 ? "hold" : act(now.laws.get(p.law), facts);
        if (act.equals("shoot") && (rounds == 0 || foe == null)) {
            act = "hold";
        }
        if (act.equals("hold")) {
            p.fear = Math.max(0, p.fear - 1);
        } else if (act.equals("drop")) {
            p.gun = -1;
        } else if (act.equals("shoot")) {
            shoot(p, foe);
        } else {
            move(p, act.equals("flee"), friend);
        }
    }

    private static String act(List<String> words, Map<String, Integer> facts) {
        int begin = 0;
        for (int i = 0; i <= words.size(); i++) {
            if (i == words.size() || words.get(i).equals(";")) {
                if (i == begin + 1 || i > begin && isTrue(words.subList(begin + 2, i), facts)) {
                    return words.get(begin);
                }
                begin = i + 1;
            }
        }
        return "hold";
    }

    private void shoot(Person p, Person foe) {
        int depth = now.minute % 10;
        now.rounds.set(p.gun, now.rounds.get(p.gun) - 1);
        leave(new Find(0, p.cell, depth, 1 << now.guns.get(p.gun).mark()));
        leave(new Find(1, foe.cell, depth, p.side));
        now.seed = now.seed * 1103515245 + 12345;
        int draw = (now.seed & Integer.MAX_VALUE) >>> 16;
        if (draw % 12 < 10 - far(p.cell, foe.cell)) {
            leave(new Find(2, foe.cell, depth, 1 << now.people.indexOf(foe)));
            foe.lives = false;
        }
    }

    private void leave(Find find) {
        if (now.finds.size() < 120) {
            now.finds.add(find);
            now.minutes.add(new int[] {0, 239});
        }
    }

    private void move(Person p, boolean flees, Person friend) {
        List<Person> foes = foes(p);
        if (flees ? foes.isEmpty() : friend == null) {
            return;
        }
        int best = -1;
        int bestValue = Integer.MIN_VALUE;
        for (int cell = 0; cell < 256; cell++) {
            if (far(cell, p.cell) <= 1) {
                int value = flees ? far(cell, nearest(foes, cell).cell) : -far(cell, friend.cell);
                if (value > bestValue) {
                    bestValue = value;
                    best = cell;
                }
            }
        }
        p.cell = best;
    }

    // ---- finds

    private int addFind(Find find) {
        room(now.finds.size(), 120);
        leave(find);
        return now.finds.size() - 1;
    }

    int found(int cell, int depth, int marks) {
        cells(cell);
        range(depth, 0, 9);
        range(marks, 1, 65535);
        return addFind(new Find(0, cell, depth, marks));
    }

    int other(int kind, int cell, int depth, int n) {
        cells(cell);
        range(kind, 1, 3);
        range(depth, 0, 9);
        range(n, new int[] {0, 0, 1, 1800}[kind], new int[] {0, 1, 255, 1999}[kind]);
        return addFind(new Find(kind, cell, depth, n));
    }

    private boolean isNear(int row) {
        return now.walked.stream().anyMatch(w -> Math.abs(w - row) <= now.wide);
    }

    private boolean seen(int f) {
        Find find = now.finds.get(f);
        return find.depth() <= now.depth && isNear(find.cell() / 16);
    }

    private List<Integer> seenOf(int kind) {
        List<Integer> all = new ArrayList<>();
        for (int f = 0; f < now.finds.size(); f++) {
            if (seen(f) && now.finds.get(f).kind() == kind) {
                all.add(f);
            }
        }
        return all;
    }

    private int seenCount() {
        return seenOf(0).size() + seenOf(1).size() + seenOf(2).size() + seenOf(3).size();
    }

    private Set<Integer> mayBe(int f) {
        Set<Integer> guns = new HashSet<>();
        for (int g = 0; g < now.guns.size(); g++) {
            if (now.finds.get(f).kind() == 0 && (now.finds.get(f).n() & 1 << now.guns.get(g).mark()) != 0) {
                guns.add(g);
            }
        }
        return guns;
    }

    private static int bits(Set<Integer> numbers) {
        return numbers.stream().mapToInt(n -> 1 << n).sum();
    }

    int about(int find, int what) {
        index(find, now.finds.size());
        what(what, 7);
        Find f = now.finds.get(find);
        int[] all = {f.kind(), f.cell(), f.depth(), f.n(), seen(find) ? 1 : 0, bits(mayBe(find)),
            now.minutes.get(find)[0], now.minutes.get(find)[1]};
        return all[what];
    }

    void when(int find, int from, int till) {
        index(find, now.finds.size());
        argument(now.finds.get(find).kind() == 0);
        range(from, 0, 239);
        range(till, from, 239);
        now.minutes.set(find, new int[] {from, till});
    }

    void machine(int depth, int wide) {
        range(depth, 0, 9);
        range(wide, 0, 3);
        now.depth = depth;
        now.wide = wide;
    }

    int walk(int row) {
        index(row, 16);
        int before = seenCount();
        now.walked.add(row);
        return seenCount() - before;
    }

    int next() {
        int best = -1;
        int most = -1;
        int before = seenCount();
        for (int row = 0; row < 16; row++) {
            if (now.walked.add(row)) {
                if (seenCount() - before > most) {
                    most = seenCount() - before;
                    best = row;
                }
                now.walked.remove(row);
            }
        }
        return best;
    }

    // ---- what cases tell

    private List<Integer> casesIn(int a, int b) {
        return seenOf(0).stream().filter(f -> in(now.finds.get(f).cell(), a, b)).toList();
    }

    int needed(int from, int to) {
        cells(from, to);
        List<Integer> cases = casesIn(from, to);
        for (int size = 0; size <= 8; size++) {
            for (int guns = 0; guns < 256; guns++) {
                int tried = guns;
                if (Integer.bitCount(guns) == size
                        && cases.stream().allMatch(f -> mayBe(f).isEmpty() || (bits(mayBe(f)) & tried) != 0)) {
                    return guns;
                }
            }
        }
        throw new AssertionError();
    }

    int same(int a, int b, int what) {
        index(a, now.finds.size());
        index(b, now.finds.size());
        argument(seenOf(0).contains(a) && seenOf(0).contains(b));
        what(what, 1);
        int both = 0;
        int all = 0;
        for (int g : mayBe(a)) {
            for (int h : mayBe(b)) {
                both += g == h ? 1 : 0;
                all++;
            }
        }
        return what == 0 ? both : all;
    }

    int later(int what) {
        what(what, 2);
        int modern = 0;
        int unknown = 0;
        for (int f : seenOf(0)) {
            unknown += mayBe(f).isEmpty() ? 1 : 0;
            modern += !mayBe(f).isEmpty() && mayBe(f).stream().allMatch(g -> now.guns.get(g).year() > now.day) ? 1 : 0;
        }
        int later = (int) seenOf(3).stream().filter(f -> now.finds.get(f).n() > now.day).count();
        return what == 0 ? later + modern : what == 1 ? modern : unknown;
    }

    private List<Integer> sureOf(int gun) {
        return seenOf(0).stream().filter(f -> mayBe(f).equals(Set.of(gun))).toList();
    }

    private int soonest;
    private int opening;

    /** All orders of those that are left, from where and when the hand is; keeps the best end in soonest. */
    private void orders(List<Integer> left, int at, int minute, int first) {
        if (left.isEmpty()) {
            if (soonest < 0 || minute < soonest || minute == soonest && first < opening) {
                soonest = minute;
                opening = first;
            }
            return;
        }
        for (int f : left) {
            int cell = now.finds.get(f).cell();
            int way = at < 0 ? 0 : far(at, cell) + (now.heights[cell] > now.heights[at] ? 1 : 0);
            int there = Math.max(minute + way, now.minutes.get(f)[0]);
            if (there <= now.minutes.get(f)[1]) {
                List<Integer> rest = new ArrayList<>(left);
                rest.remove((Integer) f);
                orders(rest, cell, there, at < 0 ? f : first);
            }
        }
    }

    private boolean byOne(List<Integer> cases) {
        soonest = -1;
        opening = -1;
        orders(cases, -1, 0, -1);
        return soonest >= 0;
    }

    /** Gives each case to one of the hands that are there, or to a new one. */
    private int fewest(List<Integer> cases, int at, List<List<Integer>> hands, int best) {
        if (hands.size() >= best) {
            return best;
        }
        if (at == cases.size()) {
            return hands.size();
        }
        for (int i = 0; i <= hands.size() && i < 8; i++) {
            List<List<Integer>> tried = new ArrayList<>();
            hands.forEach(h -> tried.add(new ArrayList<>(h)));
            if (i == hands.size()) {
                tried.add(new ArrayList<>());
            }
            tried.get(i).add(cases.get(at));
            if (byOne(tried.get(i))) {
                best = fewest(cases, at + 1, tried, best);
            }
        }
        return best;
    }

    int way(int gun, int what) {
        index(gun, now.guns.size());
        what(what, 2);
        List<Integer> cases = sureOf(gun);
        cases = cases.subList(0, Math.min(8, cases.size()));
        if (cases.isEmpty()) {
            return what == 0 ? 0 : -1;
        }
        boolean one = byOne(cases);
        int[] ends = {soonest, opening};
        if (what > 0) {
            return ends[what - 1];
        }
        return one ? 1 : fewest(cases, 0, new ArrayList<>(), 9);
    }

    private List<Integer> columns(int side, int row) {
        Set<Integer> columns = new java.util.TreeSet<>();
        for (int g = 0; g < now.guns.size(); g++) {
            if (now.guns.get(g).side() == side) {
                sureOf(g).stream().map(f -> now.finds.get(f).cell()).filter(c -> c / 16 == row).forEach(c -> columns.add(c % 16));
            }
        }
        return new ArrayList<>(columns);
    }

    int held(int side, int row, int off, boolean broke) {
        index(side, 2);
        index(row, 16);
        range(off, 0, 15);
        List<Integer> columns = columns(side, row);
        List<Integer> steps = new ArrayList<>();
        for (int i = 1; i < columns.size(); i++) {
            steps.add(columns.get(i) - columns.get(i - 1));
        }
        if (broke) {
            for (int i = 1; i < steps.size(); i++) {
                if (steps.get(i) > steps.get(i - 1) + off) {
                    return columns.get(i);
                }
            }
            return -1;
        }
        int longest = 0;
        for (int a = 0; a < steps.size(); a++) {
            for (int b = a + 1; b <= steps.size(); b++) {
                List<Integer> piece = steps.subList(a, b);
                if (java.util.Collections.max(piece) - java.util.Collections.min(piece) <= off) {
                    longest = Math.max(longest, b - a);
                }
            }
        }
        return longest;
    }

    int heaps(int cases, boolean first) {
        range(cases, 1, 99);
        List<Integer> heaps = new ArrayList<>();
        for (int cell = 0; cell < 256; cell++) {
            if (casesIn(cell, cell).size() >= cases) {
                heaps.add(cell);
            }
        }
        return !first ? heaps.size() : heaps.isEmpty() ? -1 : heaps.get(0);
    }

    int length(int side, int least, int greatest, boolean most) {
        index(side, 2);
        range(greatest, 1, 9);
        range(least, 1, greatest);
        int longest = 0;
        for (int g = 0; g < now.guns.size(); g++) {
            if (now.guns.get(g).side() == side) {
                longest = Math.max(longest, (int) Math.ceil(sureOf(g).size() / (double) (most ? least : greatest)));
            }
        }
        return longest;
    }

    int still(int from, int to) {
        cells(from, to);
        int[] there = new int[256];
        int most = 0;
        for (int f = 0; f < now.finds.size(); f++) {
            if (seen(f)) {
                most = Math.max(most, ++there[now.finds.get(f).cell()]);
            }
        }
        int sum = 0;
        for (int cell = 0; cell < 256; cell++) {
            sum += in(cell, from, to) && !isNear(cell / 16) ? most : 0;
        }
        return sum;
    }

    int joined(int a, int b, int c, int d, boolean may) {
        cells(a, b, c, d);
        int bits = 0;
        for (int g = 0; g < now.guns.size(); g++) {
            int gun = g;
            boolean inA = casesIn(a, b).stream().anyMatch(f -> mayBe(f).contains(gun) && (may || mayBe(f).size() == 1));
            boolean inC = casesIn(c, d).stream().anyMatch(f -> mayBe(f).contains(gun) && (may || mayBe(f).size() == 1));
            bits += inA && inC ? 1 << g : 0;
        }
        return bits;
    }

    // ---- tellers

    int teller(int cell, int from, int till, int listener) {
        cells(cell);
        range(from, 0, 239);
        range(till, from, 239);
        range(listener, 0, 9);
        room(now.tellers.size(), 8);
        now.tellers.add(new Teller(cell, from, till, listener));
        return now.tellers.size() - 1;
    }

    int tells(int teller, int cell, int minute) {
        index(teller, now.tellers.size());
        cells(cell);
        range(minute, 0, 239);
        room(now.tellings.size(), 20);
        now.tellings.add(new Telling(teller, cell, minute));
        return now.tellings.size() - 1;
    }

    boolean could(int telling, boolean fits) {
        index(telling, now.tellings.size());
        Telling t = now.tellings.get(telling);
        Teller by = now.tellers.get(t.teller());
        boolean could = by.from() <= t.minute() && t.minute() <= by.till() && sees(by.cell(), t.cell());
        boolean near = false;
        for (int kind = 0; kind < 3; kind++) {
            near |= seenOf(kind).stream().anyMatch(f -> far(now.finds.get(f).cell(), t.cell()) <= 1);
        }
        return could && (!fits || near);
    }

    boolean talked(int a, int b) {
        index(a, now.tellers.size());
        index(b, now.tellers.size());
        Set<Integer> cells = new HashSet<>();
        now.tellings.stream().filter(t -> t.teller() == a).forEach(t -> cells.add(t.cell()));
        return a != b && now.tellers.get(a).listener() == now.tellers.get(b).listener()
            && now.tellings.stream().anyMatch(t -> t.teller() == b && cells.contains(t.cell()));
    }

    int apart() {
        return apart(0, new ArrayList<>());
    }

    private int apart(int at, List<Integer> chosen) {
        if (at == now.tellers.size()) {
            return chosen.size();
        }
        int best = apart(at + 1, chosen);
        boolean fits = false;
        for (int i = 0; i < now.tellings.size(); i++) {
            fits |= now.tellings.get(i).teller() == at && could(i, true);
        }
        if (fits && chosen.stream().noneMatch(c -> talked(c, at))) {
            List<Integer> more = new ArrayList<>(chosen);
            more.add(at);
            best = Math.max(best, apart(at + 1, more));
        }
        return best;
    }

    int who(int find) {
        index(find, now.finds.size());
        List<Integer> bones = seenOf(2);
        bones = bones.subList(0, Math.min(8, bones.size()));
        argument(bones.contains(find));
        int bits = 0;
        for (int p = 0; p < 8; p++) {
            if ((now.finds.get(find).n() >> p & 1) == 1) {
                List<Integer> rest = new ArrayList<>(bones);
                rest.remove((Integer) find);
                bits += canBe(rest, 0, 1 << p) ? 1 << p : 0;
            }
        }
        return bits;
    }

    private boolean canBe(List<Integer> bones, int at, int taken) {
        if (at == bones.size()) {
            return true;
        }
        for (int p = 0; p < 8; p++) {
            if ((now.finds.get(bones.get(at)).n() & ~taken & 1 << p) != 0 && canBe(bones, at + 1, taken | 1 << p)) {
                return true;
            }
        }
        return false;
    }

    // ---- stories

    int story(int weight) {
        List<String> words = read(false);
        argument(fault == -1);
        range(weight, 1, 99);
        room(now.stories.size(), 5);
        now.stories.add(new Story(words, weight));
        return now.stories.size() - 1;
    }

    boolean holds(int story) {
        index(story, now.stories.size());
        Map<String, Integer> facts = new HashMap<>();
        facts.put("cases", seenOf(0).size());
        facts.put("balls", seenOf(1).size());
        facts.put("bones", seenOf(2).size());
        facts.put("later", seenOf(3).size());
        facts.put("guns", Integer.bitCount(needed(0, 255)));
        int fits = 0;
        for (int i = 0; i < now.tellings.size(); i++) {
            fits += could(i, true) ? 1 : 0;
        }
        facts.put("fits", fits);
        facts.put("heaps", heaps(4, false));
        int held = 0;
        for (int row = 0; row < 16; row++) {
            held = Math.max(held, held(0, row, 1, false));
        }
        facts.put("held", held);
        return isTrue(now.stories.get(story).words(), facts);
    }

    int odds(int story) {
        index(story, now.stories.size());
        int all = 0;
        for (int i = 0; i < now.stories.size(); i++) {
            all += holds(i) ? now.stories.get(i).weight() : 0;
        }
        return holds(story) ? now.stories.get(story).weight() * 10000 / all : 0;
    }

    // ---- the image, and counts

    void image() {
        image = now.copy();
    }

    boolean back() {
        if (image == null) {
            return false;
        }
        now = image.copy();
        return true;
    }

    int count(int what) {
        int[] all = {now.guns.size(), now.people.size(), (int) now.people.stream().filter(p -> p.lives).count(),
            now.laws.size(), now.finds.size(), seenCount(), now.minute, now.tellers.size(), now.tellings.size(),
            now.stories.size(), now.walked.size(), now.rounds.stream().mapToInt(r -> r).sum()};
        return what < 0 || what > 11 ? -1 : all[what];
    }
}
