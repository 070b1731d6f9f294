import java.util.Arrays;
import java.util.NoSuchElementException;

/** A field of grass on which people fought one afternoon, and what later finds can tell of it. */
public final class GrassField {
    public static final int NONE = -1;

    private static final int SIDE_CELLS = 16;
    private static final int CELLS = 256;
    private static final int LAST_CELL = 255;
    private static final int MOST_GUNS = 8;
    private static final int MOST_PEOPLE = 8;
    private static final int MOST_LAWS = 4;
    private static final int MOST_LINES = 10;
    private static final int MOST_FINDS = 120;
    private static final int MOST_TELLERS = 8;
    private static final int MOST_TELLINGS = 20;
    private static final int MOST_STORIES = 5;
    private static final int MOST_BYTES = 400;
    private static final int LAST_MINUTE = 239;
    private static final int FIRST_YEAR = 1800;
    private static final int LAST_YEAR = 1999;

    private static final int CASE = 0;
    private static final int BALL = 1;
    private static final int BONES = 2;
    private static final int LATER = 3;

    private static final int SHOOT = 1;
    private static final int FLEE = 2;
    private static final int JOIN = 3;
    private static final int HOLD = 4;
    private static final int DROP = 5;

    private final Reader reader;
    private final State state;
    private final Fight fight;
    private final Study study;
    /** Both are made when they are first asked for: most fields need neither. */
    private Ways ways;
    private State kept;

    public GrassField() {
        reader = new Reader();
        state = new State();
        fight = new Fight(state);
        study = new Study(state);
    }

    public int feed(int a, int b, int c, int d, int e) {
        if (!reader.hasRoom()) {
            return NONE;
        }
        reader.addNumber(a);
        reader.addNumber(b);
        reader.addNumber(c);
        reader.addNumber(d);
        reader.addNumber(e);
        return reader.size;
    }

    public boolean end(int n) {
        if (n < 0 || n > reader.size) {
            return false;
        }
        reader.size = n;
        return true;
    }

    public void ground(int from, int to, int height) throws IndexOutOfBoundsException, IllegalArgumentException {
        needCell(from);
        needCell(to);
        need(isWithin(height, 0, 9));
        state.land.raise(from, to, height);
    }

    public int height(int cell) throws IndexOutOfBoundsException {
        needCell(cell);
        return state.land.heights[cell];
    }

    public boolean sees(int from, int to) throws IndexOutOfBoundsException {
        needCell(from);
        needCell(to);
        return state.land.isOpen(from, to);
    }

    public int gun(int side, int mark, int year, int rounds)
            throws IllegalArgumentException, UnsupportedOperationException {
        need(isWithin(side, 0, 1) && isWithin(mark, 0, 15) && isYear(year) && isWithin(rounds, 0, 40));
        needRoom(state.guns.size, MOST_GUNS);
        return state.guns.add(side, mark, year, rounds);
    }

    public void day(int year) throws IllegalArgumentException {
        need(isYear(year));
        state.day = year;
    }

    public int law() throws IllegalArgumentException, UnsupportedOperationException {
        need(reader.readsLaw());
        needRoom(state.lawCount, MOST_LAWS);
        return state.addLaw(reader.program());
    }

    public int fault() {
        return reader.wrong;
    }

    public int person(int gun, int cell, int fear, int law)
            throws IndexOutOfBoundsException, IllegalArgumentException, UnsupportedOperationException {
        needNumber(gun, state.guns.size);
        needCell(cell);
        if (law != NONE) {
            needNumber(law, state.lawCount);
        }
        need(isWithin(fear, 0, 9) && !state.people.someoneHas(gun));
        needRoom(state.people.size, MOST_PEOPLE);
        return state.people.add(gun, state.guns.side[gun], cell, fear, law);
    }

    public int look(int person, int what) throws IndexOutOfBoundsException, NoSuchElementException {
        People people = state.people;
        needNumber(person, people.size);
        switch (what) {
            case 0:
                return people.gun[person];
            case 1:
                return people.cell[person];
            case 2:
                return people.fear[person];
            case 3:
                return people.living[person];
            case 4:
                return people.side[person];
            case 5:
                return people.law[person];
            case 6:
                return people.foesNear(person);
            case 7:
                return people.friendsNear(person);
            default:
                throw new NoSuchElementException("nothing else is known of a person");
        }
    }

    public void seed(int n) {
        state.seed = n;
    }

    public int run(int minutes) throws IllegalArgumentException {
        need(isWithin(minutes, 1, 60) && state.minute + minutes <= LAST_MINUTE);
        for (int i = 0; i < minutes; i++) {
            fight.goMinute();
        }
        return state.minute;
    }

    public int found(int cell, int depth, int marks)
            throws IndexOutOfBoundsException, IllegalArgumentException, UnsupportedOperationException {
        needCell(cell);
        need(isWithin(depth, 0, 9) && isWithin(marks, 1, 0xffff));
        needRoom(state.finds.size, MOST_FINDS);
        return state.finds.add(CASE, cell, depth, marks);
    }

    public int other(int kind, int cell, int depth, int n)
            throws IndexOutOfBoundsException, IllegalArgumentException, UnsupportedOperationException {
        needCell(cell);
        need(isWithin(depth, 0, 9) && canBeOfKind(kind, n));
        needRoom(state.finds.size, MOST_FINDS);
        return state.finds.add(kind, cell, depth, n);
    }

    public int about(int find, int what) throws IndexOutOfBoundsException, NoSuchElementException {
        Finds finds = state.finds;
        needNumber(find, finds.size);
        switch (what) {
            case 0:
                return finds.kind[find];
            case 1:
                return finds.cell[find];
            case 2:
                return finds.depth[find];
            case 3:
                return finds.value[find];
            case 4:
                return finds.isSeen(find, finds.nearRows()) ? 1 : 0;
            case 5:
                return state.gunsOf(find);
            case 6:
                return finds.from[find];
            case 7:
                return finds.till[find];
            default:
                throw new NoSuchElementException("nothing else is known of a find");
        }
    }

    public void when(int find, int from, int till) throws IndexOutOfBoundsException, IllegalArgumentException {
        needNumber(find, state.finds.size);
        need(state.finds.kind[find] == CASE && areMinutes(from, till));
        state.finds.from[find] = from;
        state.finds.till[find] = till;
    }

    public void machine(int depth, int wide) throws IllegalArgumentException {
        need(isWithin(depth, 0, 9) && isWithin(wide, 0, 3));
        state.finds.reach = depth;
        state.finds.wide = wide;
    }

    public int walk(int row) throws IndexOutOfBoundsException {
        needNumber(row, SIDE_CELLS);
        int before = state.finds.seenCount();
        state.finds.walked |= 1 << row;
        return state.finds.seenCount() - before;
    }

    public int next() {
        return state.finds.bestRow();
    }

    public int needed(int from, int to) throws IndexOutOfBoundsException {
        needCell(from);
        needCell(to);
        study.refresh();
        return study.fewestGuns(from, to);
    }

    public int same(int a, int b, int what)
            throws IndexOutOfBoundsException, IllegalArgumentException, NoSuchElementException {
        needNumber(a, state.finds.size);
        needNumber(b, state.finds.size);
        study.refresh();
        int gunsOfA = study.caseGuns[a];
        int gunsOfB = study.caseGuns[b];
        need(gunsOfA != NONE && gunsOfB != NONE);
        needQuestion(what, 1);
        if (what == 0) {
            return Integer.bitCount(gunsOfA & gunsOfB);
        }
        return Integer.bitCount(gunsOfA) * Integer.bitCount(gunsOfB);
    }

    public int later(int what) throws NoSuchElementException {
        needQuestion(what, 2);
        study.refresh();
        if (what == 2) {
            return study.unknownCases();
        }
        int modern = study.modernCases();
        return what == 0 ? modern + study.laterThings() : modern;
    }

    public int way(int gun, int what) throws IndexOutOfBoundsException, NoSuchElementException {
        needNumber(gun, state.guns.size);
        needQuestion(what, 2);
        if (ways == null) {
            ways = new Ways();
        }
        study.refresh();
        study.fillWays(gun, ways);
        ways.solve();
        if (what == 0) {
            return ways.fewestHands();
        }
        return what == 1 ? ways.soonest : ways.firstFind();
    }

    public int held(int side, int row, int off, boolean broke)
            throws IndexOutOfBoundsException, IllegalArgumentException {
        needNumber(side, 2);
        needNumber(row, SIDE_CELLS);
        need(isWithin(off, 0, 15));
        study.refresh();
        return broke ? study.breakOf(side, row, off) : study.longestPiece(side, row, off);
    }

    public int heaps(int cases, boolean first) throws IllegalArgumentException {
        need(isWithin(cases, 1, 99));
        study.refresh();
        return first ? study.firstHeap(cases) : study.heapCount(cases);
    }

    public int length(int side, int least, int greatest, boolean most)
            throws IndexOutOfBoundsException, IllegalArgumentException {
        needNumber(side, 2);
        need(1 <= least && least <= greatest && greatest <= 9);
        study.refresh();
        return study.minutesOf(side, most ? least : greatest);
    }

    public int still(int from, int to) throws IndexOutOfBoundsException {
        needCell(from);
        needCell(to);
        return study.mostUnseen(from, to);
    }

    public int teller(int cell, int from, int till, int listener)
            throws IndexOutOfBoundsException, IllegalArgumentException, UnsupportedOperationException {
        needCell(cell);
        need(areMinutes(from, till) && isWithin(listener, 0, 9));
        needRoom(state.tellers.size, MOST_TELLERS);
        return state.tellers.add(cell, from, till, listener);
    }

    public int tells(int teller, int cell, int minute)
            throws IndexOutOfBoundsException, IllegalArgumentException, UnsupportedOperationException {
        needNumber(teller, state.tellers.size);
        needCell(cell);
        need(isWithin(minute, 0, LAST_MINUTE));
        needRoom(state.tellers.told, MOST_TELLINGS);
        return state.tellers.addTelling(teller, cell, minute);
    }

    public boolean could(int telling, boolean fits) throws IndexOutOfBoundsException {
        needNumber(telling, state.tellers.told);
        return fits ? study.isBorneOut(telling) : state.tellers.isPossible(telling, state.land);
    }

    public boolean talked(int a, int b) throws IndexOutOfBoundsException {
        needNumber(a, state.tellers.size);
        needNumber(b, state.tellers.size);
        return state.tellers.mayHaveTalked(a, b);
    }

    public int apart() {
        return study.mostApart();
    }

    public int who(int find) throws IndexOutOfBoundsException, IllegalArgumentException {
        needNumber(find, state.finds.size);
        study.gatherBones();
        int place = study.placeOfBones(find);
        need(place != NONE);
        return study.peopleFor(place);
    }

    public int joined(int a, int b, int c, int d, boolean may) throws IndexOutOfBoundsException {
        needCell(a);
        needCell(b);
        needCell(c);
        needCell(d);
        study.refresh();
        return study.gunsIn(a, b, may) & study.gunsIn(c, d, may);
    }

    public int story(int weight) throws IllegalArgumentException, UnsupportedOperationException {
        need(reader.readsStory() && isWithin(weight, 1, 99));
        needRoom(state.storyCount, MOST_STORIES);
        return state.addStory(reader.program(), weight);
    }

    public boolean holds(int story) throws IndexOutOfBoundsException {
        needNumber(story, state.storyCount);
        study.gatherFacts();
        return study.isTrue(story);
    }

    public int odds(int story) throws IndexOutOfBoundsException {
        needNumber(story, state.storyCount);
        study.gatherFacts();
        return study.tenThousandths(story);
    }

    public void image() {
        if (kept == null) {
            kept = new State();
        }
        kept.become(state);
    }

    public boolean back() {
        if (kept == null) {
            return false;
        }
        state.become(kept);
        return true;
    }

    public int count(int what) {
        switch (what) {
            case 0:
                return state.guns.size;
            case 1:
                return state.people.size;
            case 2:
                return state.people.livingCount();
            case 3:
                return state.lawCount;
            case 4:
                return state.finds.size;
            case 5:
                return state.finds.seenCount();
            case 6:
                return state.minute;
            case 7:
                return state.tellers.size;
            case 8:
                return state.tellers.told;
            case 9:
                return state.storyCount;
            case 10:
                return Integer.bitCount(state.finds.walked);
            case 11:
                return state.guns.allRounds();
            default:
                return NONE;
        }
    }

    private static boolean isWithin(int n, int least, int greatest) {
        return least <= n && n <= greatest;
    }

    private static boolean isYear(int n) {
        return isWithin(n, FIRST_YEAR, LAST_YEAR);
    }

    private static boolean areMinutes(int from, int till) {
        return 0 <= from && from <= till && till <= LAST_MINUTE;
    }

    private static boolean canBeOfKind(int kind, int n) {
        switch (kind) {
            case BALL:
                return isWithin(n, 0, 1);
            case BONES:
                return isWithin(n, 1, 0xff);
            case LATER:
                return isYear(n);
            default:
                return false;
        }
    }

    private static void needNumber(int number, int size) {
        if (number < 0 || number >= size) {
            throw new IndexOutOfBoundsException("there is none of this number");
        }
    }

    private static void needCell(int cell) {
        needNumber(cell, CELLS);
    }

    private static void need(boolean allowed) {
        if (!allowed) {
            throw new IllegalArgumentException("this cannot be told so");
        }
    }

    private static void needRoom(int size, int most) {
        if (size >= most) {
            throw new UnsupportedOperationException("there are as many as there may be");
        }
    }

    private static void needQuestion(int what, int last) {
        if (what < 0 || what > last) {
            throw new NoSuchElementException("nothing else is known here");
        }
    }

    /** The ground. */
    private static final class Land {
        private final int[] heights = new int[CELLS];

        static int far(int a, int b) {
            int alongX = Math.abs(a % SIDE_CELLS - b % SIDE_CELLS);
            int alongY = Math.abs(a / SIDE_CELLS - b / SIDE_CELLS);
            return Math.max(alongX, alongY);
        }

        static int column(int cell) {
            return cell % SIDE_CELLS;
        }

        static int row(int cell) {
            return cell / SIDE_CELLS;
        }

        static boolean isInArea(int cell, int from, int to) {
            return isBetween(column(cell), column(from), column(to)) && isBetween(row(cell), row(from), row(to));
        }

        private static boolean isBetween(int n, int a, int b) {
            return Math.min(a, b) <= n && n <= Math.max(a, b);
        }

        void raise(int from, int to, int tall) {
            for (int cell = 0; cell < CELLS; cell++) {
                if (isInArea(cell, from, to)) {
                    heights[cell] = tall;
                }
            }
        }

        boolean isOpen(int from, int to) {
            int far = far(from, to);
            for (int k = 1; k < far; k++) {
                int x = between(column(from), column(to), k, far);
                int y = between(row(from), row(to), k, far);
                int sight = heights[from] * (far - k) + heights[to] * k;
                if (heights[SIDE_CELLS * y + x] * far > sight) {
                    return false;
                }
            }
            return true;
        }

        /** Callers have a far of 2 at least, so it can divide. */
        private static int between(int a, int b, int k, int far) {
            return (2 * (a * (far - k) + b * k) + far) / (2 * far);
        }

        int minutesOnFoot(int from, int to) {
            return far(from, to) + (heights[to] > heights[from] ? 1 : 0);
        }

        void become(Land that) {
            System.arraycopy(that.heights, 0, heights, 0, CELLS);
        }
    }

    /** The guns that are known. */
    private static final class Guns {
        private int size;
        private final int[] side = new int[MOST_GUNS];
        private final int[] mark = new int[MOST_GUNS];
        private final int[] year = new int[MOST_GUNS];
        private final int[] rounds = new int[MOST_GUNS];

        int add(int ofSide, int ofMark, int ofYear, int ofRounds) {
            side[size] = ofSide;
            mark[size] = ofMark;
            year[size] = ofYear;
            rounds[size] = ofRounds;
            size++;
            return size - 1;
        }

        int withMarks(int marks) {
            int bits = 0;
            for (int g = 0; g < size; g++) {
                if ((marks >> mark[g] & 1) == 1) {
                    bits |= 1 << g;
                }
            }
            return bits;
        }

        int madeBehind(int day) {
            int bits = 0;
            for (int g = 0; g < size; g++) {
                if (year[g] > day) {
                    bits |= 1 << g;
                }
            }
            return bits;
        }

        int ofSide(int which) {
            int bits = 0;
            for (int g = 0; g < size; g++) {
                if (side[g] == which) {
                    bits |= 1 << g;
                }
            }
            return bits;
        }

        int allRounds() {
            int sum = 0;
            for (int g = 0; g < size; g++) {
                sum += rounds[g];
            }
            return sum;
        }

        void become(Guns that) {
            size = that.size;
            System.arraycopy(that.side, 0, side, 0, MOST_GUNS);
            System.arraycopy(that.mark, 0, mark, 0, MOST_GUNS);
            System.arraycopy(that.year, 0, year, 0, MOST_GUNS);
            System.arraycopy(that.rounds, 0, rounds, 0, MOST_GUNS);
        }
    }

    /** The people who fought. */
    private static final class People {
        private int size;
        private final int[] gun = new int[MOST_PEOPLE];
        private final int[] side = new int[MOST_PEOPLE];
        private final int[] cell = new int[MOST_PEOPLE];
        private final int[] fear = new int[MOST_PEOPLE];
        private final int[] law = new int[MOST_PEOPLE];
        private final int[] living = new int[MOST_PEOPLE];

        int add(int withGun, int ofSide, int inCell, int ofFear, int underLaw) {
            gun[size] = withGun;
            side[size] = ofSide;
            cell[size] = inCell;
            fear[size] = ofFear;
            law[size] = underLaw;
            living[size] = 1;
            size++;
            return size - 1;
        }

        boolean someoneHas(int which) {
            for (int p = 0; p < size; p++) {
                if (gun[p] == which) {
                    return true;
                }
            }
            return false;
        }

        int livingCount() {
            int sum = 0;
            for (int p = 0; p < size; p++) {
                sum += living[p];
            }
            return sum;
        }

        int foesNear(int p) {
            return countNear(p, true, 3);
        }

        int friendsNear(int p) {
            return countNear(p, false, 2);
        }

        private int countNear(int p, boolean foes, int reach) {
            int near = 0;
            for (int q = 0; q < size; q++) {
                if (isRelated(p, q, foes) && Land.far(cell[p], cell[q]) <= reach) {
                    near++;
                }
            }
            return near;
        }

        /** The foe, or friend, of p that is nearest to a cell; of several the least number. */
        int nearest(int p, int toCell, boolean foes) {
            int best = NONE;
            for (int q = 0; q < size; q++) {
                if (isRelated(p, q, foes)
                        && (best == NONE || Land.far(toCell, cell[q]) < Land.far(toCell, cell[best]))) {
                    best = q;
                }
            }
            return best;
        }

        private boolean isRelated(int p, int q, boolean foes) {
            return living[q] == 1 && q != p && (side[q] != side[p]) == foes;
        }

        void become(People that) {
            size = that.size;
            System.arraycopy(that.gun, 0, gun, 0, MOST_PEOPLE);
            System.arraycopy(that.side, 0, side, 0, MOST_PEOPLE);
            System.arraycopy(that.cell, 0, cell, 0, MOST_PEOPLE);
            System.arraycopy(that.fear, 0, fear, 0, MOST_PEOPLE);
            System.arraycopy(that.law, 0, law, 0, MOST_PEOPLE);
            System.arraycopy(that.living, 0, living, 0, MOST_PEOPLE);
        }
    }

    /** What lies in the ground, the machine, and the rows in which it was walked. */
    private static final class Finds {
        private int size;
        private final int[] kind = new int[MOST_FINDS];
        private final int[] cell = new int[MOST_FINDS];
        private final int[] depth = new int[MOST_FINDS];
        private final int[] value = new int[MOST_FINDS];
        private final int[] from = new int[MOST_FINDS];
        private final int[] till = new int[MOST_FINDS];
        private int reach = 9;
        private int wide;
        private int walked;

        /** What would be one too many is lost: the answer is NONE then. */
        int add(int ofKind, int inCell, int atDepth, int ofValue) {
            if (size >= MOST_FINDS) {
                return NONE;
            }
            kind[size] = ofKind;
            cell[size] = inCell;
            depth[size] = atDepth;
            value[size] = ofValue;
            from[size] = 0;
            till[size] = LAST_MINUTE;
            size++;
            return size - 1;
        }

        int nearRows() {
            return rowsNear(walked);
        }

        private int rowsNear(int rows) {
            int near = rows;
            for (int i = 1; i <= wide; i++) {
                near |= rows << i | rows >> i;
            }
            return near & 0xffff;
        }

        /** The rows are asked for once, and not for each find again. */
        boolean isSeen(int find, int rows) {
            return depth[find] <= reach && (rows >> Land.row(cell[find]) & 1) == 1;
        }

        int seenCount() {
            return seenIn(nearRows());
        }

        private int seenIn(int rows) {
            int seen = 0;
            for (int f = 0; f < size; f++) {
                if (isSeen(f, rows)) {
                    seen++;
                }
            }
            return seen;
        }

        int bestRow() {
            int seenRows = nearRows();
            int best = NONE;
            int most = NONE;
            for (int row = 0; row < SIDE_CELLS; row++) {
                if ((walked >> row & 1) == 0) {
                    int fresh = seenIn(rowsNear(1 << row) & ~seenRows);
                    if (fresh > most) {
                        most = fresh;
                        best = row;
                    }
                }
            }
            return best;
        }

        void become(Finds that) {
            size = that.size;
            System.arraycopy(that.kind, 0, kind, 0, MOST_FINDS);
            System.arraycopy(that.cell, 0, cell, 0, MOST_FINDS);
            System.arraycopy(that.depth, 0, depth, 0, MOST_FINDS);
            System.arraycopy(that.value, 0, value, 0, MOST_FINDS);
            System.arraycopy(that.from, 0, from, 0, MOST_FINDS);
            System.arraycopy(that.till, 0, till, 0, MOST_FINDS);
            reach = that.reach;
            wide = that.wide;
            walked = that.walked;
        }
    }

    /** Those who tell, and what they told. */
    private static final class Tellers {
        private int size;
        private final int[] cell = new int[MOST_TELLERS];
        private final int[] from = new int[MOST_TELLERS];
        private final int[] till = new int[MOST_TELLERS];
        private final int[] listener = new int[MOST_TELLERS];
        private int told;
        private final int[] teller = new int[MOST_TELLINGS];
        private final int[] toldCell = new int[MOST_TELLINGS];
        private final int[] toldMinute = new int[MOST_TELLINGS];

        int add(int inCell, int fromMinute, int tillMinute, int ofListener) {
            cell[size] = inCell;
            from[size] = fromMinute;
            till[size] = tillMinute;
            listener[size] = ofListener;
            size++;
            return size - 1;
        }

        int addTelling(int by, int ofCell, int atMinute) {
            teller[told] = by;
            toldCell[told] = ofCell;
            toldMinute[told] = atMinute;
            told++;
            return told - 1;
        }

        boolean isPossible(int telling, Land land) {
            int by = teller[telling];
            int minute = toldMinute[telling];
            return from[by] <= minute && minute <= till[by] && land.isOpen(cell[by], toldCell[telling]);
        }

        boolean mayHaveTalked(int a, int b) {
            return a != b && listener[a] == listener[b] && toldOfOneCell(a, b);
        }

        private boolean toldOfOneCell(int a, int b) {
            for (int i = 0; i < told; i++) {
                if (teller[i] == a && hasToldOf(b, toldCell[i])) {
                    return true;
                }
            }
            return false;
        }

        private boolean hasToldOf(int by, int ofCell) {
            for (int i = 0; i < told; i++) {
                if (teller[i] == by && toldCell[i] == ofCell) {
                    return true;
                }
            }
            return false;
        }

        void become(Tellers that) {
            size = that.size;
            System.arraycopy(that.cell, 0, cell, 0, MOST_TELLERS);
            System.arraycopy(that.from, 0, from, 0, MOST_TELLERS);
            System.arraycopy(that.till, 0, till, 0, MOST_TELLERS);
            System.arraycopy(that.listener, 0, listener, 0, MOST_TELLERS);
            told = that.told;
            System.arraycopy(that.teller, 0, teller, 0, MOST_TELLINGS);
            System.arraycopy(that.toldCell, 0, toldCell, 0, MOST_TELLINGS);
            System.arraycopy(that.toldMinute, 0, toldMinute, 0, MOST_TELLINGS);
        }
    }

    /** All that the image keeps. */
    private static final class State {
        private final Land land = new Land();
        private final Guns guns = new Guns();
        private final People people = new People();
        private final Finds finds = new Finds();
        private final Tellers tellers = new Tellers();
        private final Program[] laws = new Program[MOST_LAWS];
        private int lawCount;
        private final Program[] stories = new Program[MOST_STORIES];
        private final int[] weights = new int[MOST_STORIES];
        private int storyCount;
        private int day = 1876;
        private int seed;
        private int minute;

        int addLaw(Program program) {
            laws[lawCount] = program;
            lawCount++;
            return lawCount - 1;
        }

        int addStory(Program program, int weight) {
            stories[storyCount] = program;
            weights[storyCount] = weight;
            storyCount++;
            return storyCount - 1;
        }

        int gunsOf(int find) {
            return finds.kind[find] == CASE ? guns.withMarks(finds.value[find]) : 0;
        }

        /** Programs never change, so both states may hold the same ones. */
        void become(State that) {
            land.become(that.land);
            guns.become(that.guns);
            people.become(that.people);
            finds.become(that.finds);
            tellers.become(that.tellers);
            for (int i = 0; i < MOST_LAWS; i++) {
                laws[i] = that.laws[i];
            }
            lawCount = that.lawCount;
            for (int i = 0; i < MOST_STORIES; i++) {
                stories[i] = that.stories[i];
                weights[i] = that.weights[i];
            }
            storyCount = that.storyCount;
            day = that.day;
            seed = that.seed;
            minute = that.minute;
        }
    }

    /** A text that was read: steps that are done one behind the other on a pile of numbers. */
    private static final class Program {
        private static final int NUMBER = 0;
        private static final int FACT = 1;
        private static final int TIMES = 2;
        private static final int PLUS = 3;
        private static final int LESS = 4;
        private static final int MORE = 5;
        private static final int NOT = 6;
        private static final int AND = 7;
        private static final int OR = 8;
        private static final int REACHES = 9;
        private static final int ANSWER = 10;
        private static final int KIND_UNIT = 1000;
        /** Seven levels with an "or" and an "and" open each, and four numbers of a comparison, need 18. */
        private static final int PILE_SIZE = 32;

        private final int[] steps;
        private final int[] pile = new int[PILE_SIZE];
        private int top;

        Program(int[] from, int size) {
            steps = Arrays.copyOf(from, size);
        }

        /** The value of the first ANSWER that finds a true condition; 0 without one. */
        int answer(int[] facts) {
            top = 0;
            for (int i = 0; i < steps.length; i++) {
                int kind = steps[i] / KIND_UNIT;
                int value = steps[i] % KIND_UNIT;
                if (kind == ANSWER) {
                    if (take() != 0) {
                        return value;
                    }
                } else if (kind == NUMBER) {
                    put(value);
                } else if (kind == FACT) {
                    put(value < facts.length ? facts[value] : 0);
                } else if (kind == NOT) {
                    put(take() == 0 ? 1 : 0);
                } else {
                    int right = take();
                    put(joinTwo(kind, take(), right));
                }
            }
            return 0;
        }

        private static int joinTwo(int kind, int left, int right) {
            switch (kind) {
                case TIMES:
                    return left * right;
                case PLUS:
                    return left + right;
                case LESS:
                    return left < right ? 1 : 0;
                case MORE:
                    return left > right ? 1 : 0;
                case AND:
                    return left & right;
                case OR:
                    return left | right;
                case REACHES:
                    return left >= right ? 1 : 0;
                default:
                    return 0;
            }
        }

        private void put(int value) {
            if (top < PILE_SIZE) {
                pile[top] = value;
                top++;
            }
        }

        private int take() {
            if (top == 0) {
                return 0;
            }
            top--;
            return pile[top];
        }
    }

    /** The tape, and how laws and stories are read from it. */
    private static final class Reader {
        private static final int MOST_DEEP = 6;
        private static final int MOST_DIGITS = 3;
        /** No thing gives more steps than it has bytes, and a story has one more for its answer. */
        private static final int MOST_STEPS = MOST_BYTES + 1;

        /** Things that are no words; a sign is its own number. */
        private static final int END = 0;
        private static final int BAD = 1;
        private static final String SIGNS = "()*+;<>";
        private static final int NUMBER = 2000;

        /** Each word with a blank behind it; its number is its place. */
        private static final String WORDS = "shoot flee join hold drop if and or not foes friends fear minute height rounds far armed alone cases balls bones later guns fits heaps held ";
        private static final int WORD = 1000;
        private static final int LAST_ACT = WORD + 4;
        private static final int IF = WORD + 5;
        private static final int AND = WORD + 6;
        private static final int OR = WORD + 7;
        private static final int NOT = WORD + 8;
        private static final int FIRST_LAW_FACT = WORD + 9;
        private static final int ARMED = WORD + 16;
        private static final int ALONE = WORD + 17;
        private static final int FIRST_STORY_FACT = WORD + 18;
        private static final int HELD = WORD + 25;
        private static final int FACTS = 7;
        private static final int HELD_FACT = 7;

        private final int[] bytes = new int[MOST_BYTES];
        private int size;
        private int wrong = NONE;
        /** The things of the text and where they begin, with an END behind them. */
        private final int[] things = new int[MOST_BYTES + 1];
        private final int[] begins = new int[MOST_BYTES + 1];
        private int place;
        private int thing;
        private int firstFact;
        private final int[] steps = new int[MOST_STEPS];
        private int stepCount;

        boolean hasRoom() {
            return size + 20 <= MOST_BYTES;
        }

        /** Callers have asked for room. */
        void addNumber(int n) {
            for (int shift = 24; shift >= 0; shift -= 8) {
                bytes[size] = n >> shift & 0xff;
                size++;
            }
        }

        Program program() {
            return new Program(steps, stepCount);
        }

        /** Uses the tape up: whether it was a law. */
        boolean readsLaw() {
            open(FIRST_LAW_FACT);
            if (thing == END) {
                return true;
            }
            for (int line = 0; line < MOST_LINES; line++) {
                if (!readLine()) {
                    return false;
                }
                if (thing == END) {
                    return true;
                }
                if (thing != ';') {
                    return refuse();
                }
                goOn();
            }
            return refuse();
        }

        /** Uses the tape up: whether it was a story. */
        boolean readsStory() {
            open(FIRST_STORY_FACT);
            if (!readAny(0)) {
                return false;
            }
            addStep(Program.ANSWER, 1);
            return thing == END || refuse();
        }

        private void open(int first) {
            splitText();
            size = 0;
            wrong = NONE;
            firstFact = first;
            stepCount = 0;
            place = 0;
            thing = things[0];
        }

        private void goOn() {
            if (thing != END && place < MOST_BYTES) {
                place++;
                thing = things[place];
            }
        }

        private boolean refuse() {
            wrong = begins[place];
            return false;
        }

        private void addStep(int kind, int value) {
            if (stepCount < MOST_STEPS) {
                steps[stepCount] = kind * Program.KIND_UNIT + value;
                stepCount++;
            }
        }

        private boolean readLine() {
            if (thing < WORD || thing > LAST_ACT) {
                return refuse();
            }
            int act = thing - WORD + SHOOT;
            goOn();
            if (thing != IF) {
                addStep(Program.NUMBER, 1);
            } else {
                goOn();
                if (!readAny(0)) {
                    return false;
                }
            }
            addStep(Program.ANSWER, act);
            return true;
        }

        /** An "and" is done at once, an "or" only when all that "and" joins behind it is done. */
        private boolean readAny(int deep) {
            if (!readAtom(deep)) {
                return false;
            }
            boolean isOrOpen = false;
            for (int i = 0; i < MOST_BYTES && (thing == AND || thing == OR); i++) {
                boolean isAnd = thing == AND;
                if (!isAnd && isOrOpen) {
                    addStep(Program.OR, 0);
                }
                isOrOpen = isOrOpen || !isAnd;
                goOn();
                if (!readAtom(deep)) {
                    return false;
                }
                if (isAnd) {
                    addStep(Program.AND, 0);
                }
            }
            if (isOrOpen) {
                addStep(Program.OR, 0);
            }
            return true;
        }

        private boolean readAtom(int deep) {
            if (thing == NOT) {
                return deep < MOST_DEEP ? readNot(deep + 1) : refuse();
            }
            if (thing == '(') {
                return deep < MOST_DEEP ? readInner(deep + 1) : refuse();
            }
            if (firstFact == FIRST_LAW_FACT && (thing == ARMED || thing == ALONE)) {
                addStep(Program.FACT, thing - firstFact);
                goOn();
                return true;
            }
            if (firstFact == FIRST_STORY_FACT && thing == HELD) {
                return readHeld();
            }
            return readComparison();
        }

        private boolean readNot(int deep) {
            goOn();
            if (!readAtom(deep)) {
                return false;
            }
            addStep(Program.NOT, 0);
            return true;
        }

        private boolean readInner(int deep) {
            goOn();
            if (!readAny(deep)) {
                return false;
            }
            if (thing != ')') {
                return refuse();
            }
            goOn();
            return true;
        }

        private boolean readHeld() {
            goOn();
            if (thing < NUMBER) {
                return refuse();
            }
            addStep(Program.FACT, HELD_FACT);
            addStep(Program.NUMBER, thing - NUMBER);
            addStep(Program.REACHES, 0);
            goOn();
            return true;
        }

        private boolean readComparison() {
            if (!readSum()) {
                return false;
            }
            if (thing != '<' && thing != '>') {
                return refuse();
            }
            int kind = thing == '<' ? Program.LESS : Program.MORE;
            goOn();
            if (!readSum()) {
                return false;
            }
            addStep(kind, 0);
            return true;
        }

        private boolean readSum() {
            if (!readPart()) {
                return false;
            }
            for (int i = 0; i < MOST_BYTES && thing == '+'; i++) {
                goOn();
                if (!readPart()) {
                    return false;
                }
                addStep(Program.PLUS, 0);
            }
            return true;
        }

        private boolean readPart() {
            boolean hasNumber = thing >= NUMBER;
            if (hasNumber) {
                addStep(Program.NUMBER, thing - NUMBER);
                goOn();
                if (thing != '*') {
                    return true;
                }
                goOn();
            }
            int fact = thing - firstFact;
            if (fact < 0 || fact >= FACTS) {
                return refuse();
            }
            addStep(Program.FACT, fact);
            goOn();
            if (hasNumber) {
                addStep(Program.TIMES, 0);
            }
            return true;
        }

        private void splitText() {
            int count = 0;
            int at = behind(0, ' ', ' ');
            for (int i = 0; i < MOST_BYTES && at < size; i++) {
                begins[count] = at;
                int stop = at + 1;
                if (isByteIn(at, 'a', 'z')) {
                    stop = behind(at, 'a', 'z');
                    things[count] = wordIn(at, stop);
                } else if (isByteIn(at, '0', '9')) {
                    stop = behind(at, '0', '9');
                    things[count] = numberIn(at, stop);
                } else {
                    things[count] = SIGNS.indexOf((char) bytes[at]) < 0 ? BAD : bytes[at];
                }
                count++;
                at = behind(stop, ' ', ' ');
            }
            begins[count] = size;
            things[count] = END;
        }

        private boolean isByteIn(int at, char least, char greatest) {
            return at < size && bytes[at] >= least && bytes[at] <= greatest;
        }

        /** Where bytes of a kind that go on from a place have ended. */
        private int behind(int from, char least, char greatest) {
            int at = from;
            for (int i = 0; i < MOST_BYTES && isByteIn(at, least, greatest); i++) {
                at++;
            }
            return at;
        }

        private int numberIn(int from, int till) {
            if (till - from > MOST_DIGITS) {
                return BAD;
            }
            int number = 0;
            for (int i = from; i < till; i++) {
                number = number * 10 + bytes[i] - '0';
            }
            return NUMBER + number;
        }

        private int wordIn(int from, int till) {
            int number = 0;
            int alike = 0;
            for (int i = 0; i < WORDS.length(); i++) {
                char sign = WORDS.charAt(i);
                if (sign != ' ') {
                    boolean agrees = alike != NONE && from + alike < till && bytes[from + alike] == sign;
                    alike = agrees ? alike + 1 : NONE;
                } else if (alike == till - from) {
                    return WORD + number;
                } else {
                    number++;
                    alike = 0;
                }
            }
            return BAD;
        }
    }

    /** What people do in a minute. */
    private static final class Fight {
        private static final int NO_FOE = 99;

        private final State state;
        private final int[] facts = new int[9];

        Fight(State ofState) {
            state = ofState;
        }

        void goMinute() {
            state.minute++;
            for (int p = 0; p < state.people.size; p++) {
                if (state.people.living[p] == 1) {
                    gatherFacts(p);
                    takeTurn(p);
                }
            }
        }

        /** In the order in which the reader numbers the facts of laws; fear is moved ahead of them. */
        private void gatherFacts(int p) {
            People people = state.people;
            int cell = people.cell[p];
            int foe = people.nearest(p, cell, true);
            facts[0] = people.foesNear(p);
            facts[1] = people.friendsNear(p);
            people.fear[p] = Math.max(0, Math.min(9, people.fear[p] + facts[0] - facts[1]));
            facts[2] = people.fear[p];
            facts[3] = state.minute;
            facts[4] = state.land.heights[cell];
            facts[5] = people.gun[p] == NONE ? 0 : state.guns.rounds[people.gun[p]];
            facts[6] = foe == NONE ? NO_FOE : Land.far(cell, people.cell[foe]);
            facts[7] = facts[5] > 0 ? 1 : 0;
            facts[8] = facts[1] == 0 ? 1 : 0;
        }

        private void takeTurn(int p) {
            switch (choiceOf(p)) {
                case SHOOT:
                    shoot(p);
                    break;
                case FLEE:
                    flee(p);
                    break;
                case JOIN:
                    join(p);
                    break;
                case DROP:
                    state.people.gun[p] = NONE;
                    break;
                default:
                    calmDown(p);
                    break;
            }
        }

        private int choiceOf(int p) {
            int law = state.people.law[p];
            if (law < 0 || law >= state.lawCount || state.laws[law] == null) {
                return HOLD;
            }
            return state.laws[law].answer(facts);
        }

        private void calmDown(int p) {
            state.people.fear[p] = Math.max(0, state.people.fear[p] - 1);
        }

        private void shoot(int p) {
            People people = state.people;
            int foe = people.nearest(p, people.cell[p], true);
            int gun = people.gun[p];
            if (foe == NONE || gun == NONE || state.guns.rounds[gun] == 0) {
                calmDown(p);
                return;
            }
            int depth = state.minute % 10;
            int target = people.cell[foe];
            state.guns.rounds[gun]--;
            state.finds.add(CASE, people.cell[p], depth, 1 << state.guns.mark[gun]);
            state.finds.add(BALL, target, depth, people.side[p]);
            if (draw() % 12 < 10 - Land.far(people.cell[p], target)) {
                state.finds.add(BONES, target, depth, 1 << foe);
                people.living[foe] = 0;
            }
        }

        private int draw() {
            state.seed = 1103515245 * state.seed + 12345;
            return state.seed >> 16 & 0x7fff;
        }

        private void flee(int p) {
            int best = NONE;
            int farthest = NONE;
            for (int i = 0; i < 9; i++) {
                int cell = besideOf(state.people.cell[p], i);
                int foe = cell == NONE ? NONE : state.people.nearest(p, cell, true);
                if (foe != NONE && Land.far(cell, state.people.cell[foe]) > farthest) {
                    farthest = Land.far(cell, state.people.cell[foe]);
                    best = cell;
                }
            }
            if (best != NONE) {
                state.people.cell[p] = best;
            }
        }

        private void join(int p) {
            int friend = state.people.nearest(p, state.people.cell[p], false);
            if (friend == NONE) {
                return;
            }
            int target = state.people.cell[friend];
            int best = state.people.cell[p];
            int nearest = CELLS;
            for (int i = 0; i < 9; i++) {
                int cell = besideOf(state.people.cell[p], i);
                if (cell != NONE && Land.far(cell, target) < nearest) {
                    nearest = Land.far(cell, target);
                    best = cell;
                }
            }
            state.people.cell[p] = best;
        }

        /** Of a cell and those beside it the one at a place 0 to 8, by numbers; NONE beyond the field. */
        private static int besideOf(int cell, int place) {
            int x = Land.column(cell) + place % 3 - 1;
            int y = Land.row(cell) + place / 3 - 1;
            boolean isOnField = isWithin(x, 0, SIDE_CELLS - 1) && isWithin(y, 0, SIDE_CELLS - 1);
            return isOnField ? SIDE_CELLS * y + x : NONE;
        }
    }

    /** The ways of one gun through its cases in time. */
    private static final class Ways {
        private static final int MOST_CASES = 8;
        private static final int SETS = 256;

        private int size;
        private final int[] find = new int[MOST_CASES];
        private final int[] from = new int[MOST_CASES];
        private final int[] till = new int[MOST_CASES];
        private final int[] onFoot = new int[MOST_CASES * MOST_CASES];
        /** For a set of cases and one of it that is at its edge the best minute; NONE if it cannot be. */
        private final int[] best = new int[SETS * MOST_CASES];
        /** 1 for a set that one hand can have shot. */
        private final int[] byOne = new int[SETS];
        private final int[] hands = new int[SETS];
        private int soonest;

        boolean isFull() {
            return size >= MOST_CASES;
        }

        /** Callers have asked whether it is full. */
        void add(int number, Finds finds, Land land) {
            find[size] = number;
            from[size] = finds.from[number];
            till[size] = finds.till[number];
            for (int i = 0; i < size; i++) {
                int there = finds.cell[find[i]];
                int here = finds.cell[number];
                onFoot[i * MOST_CASES + size] = land.minutesOnFoot(there, here);
                onFoot[size * MOST_CASES + i] = land.minutesOnFoot(here, there);
            }
            size++;
        }

        private void clearBest() {
            int used = (1 << size) * MOST_CASES;
            for (int i = 0; i < used; i++) {
                best[i] = NONE;
            }
        }

        /** For each set and its last case the earliest minute; going from a case to another one directly is best. */
        void solve() {
            int all = (1 << size) - 1;
            clearBest();
            for (int i = 0; i < size; i++) {
                best[(1 << i) * MOST_CASES + i] = from[i];
            }
            for (int set = 1; set <= all; set++) {
                byOne[set] = 0;
                for (int last = 0; last < size; last++) {
                    if (best[set * MOST_CASES + last] != NONE) {
                        byOne[set] = 1;
                        goFrom(set, last);
                    }
                }
            }
            soonest = NONE;
            for (int last = 0; last < size; last++) {
                soonest = sooner(soonest, best[all * MOST_CASES + last]);
            }
        }

        private void goFrom(int set, int last) {
            int start = best[set * MOST_CASES + last];
            for (int i = 0; i < size; i++) {
                int minute = Math.max(from[i], start + onFoot[last * MOST_CASES + i]);
                if ((set >> i & 1) == 0 && minute <= till[i]) {
                    int goal = (set | 1 << i) * MOST_CASES + i;
                    best[goal] = sooner(best[goal], minute);
                }
            }
        }

        private static int sooner(int a, int b) {
            if (a == NONE || b == NONE) {
                return Math.max(a, b);
            }
            return Math.min(a, b);
        }

        /** Backwards from the end: for each set and its first case the latest minute that still leads there. */
        int firstFind() {
            if (soonest == NONE) {
                return NONE;
            }
            int all = (1 << size) - 1;
            clearBest();
            for (int i = 0; i < size; i++) {
                best[(1 << i) * MOST_CASES + i] = inTime(i, soonest);
            }
            for (int set = 1; set <= all; set++) {
                for (int first = 0; first < size; first++) {
                    if (best[set * MOST_CASES + first] != NONE) {
                        comeTo(set, first);
                    }
                }
            }
            for (int first = 0; first < size; first++) {
                if (best[all * MOST_CASES + first] != NONE) {
                    return find[first];
                }
            }
            return NONE;
        }

        private void comeTo(int set, int first) {
            int start = best[set * MOST_CASES + first];
            for (int i = 0; i < size; i++) {
                if ((set >> i & 1) == 0) {
                    int goal = (set | 1 << i) * MOST_CASES + i;
                    best[goal] = Math.max(best[goal], inTime(i, start - onFoot[i * MOST_CASES + first]));
                }
            }
        }

        /** The latest minute of a case that is not behind a told one. */
        private int inTime(int place, int minute) {
            int latest = Math.min(till[place], minute);
            return latest >= from[place] ? latest : NONE;
        }

        /** The hand that has the least case of a set has some part of it, the fewest others have the rest. */
        int fewestHands() {
            if (soonest != NONE) {
                return 1;
            }
            int all = (1 << size) - 1;
            hands[0] = 0;
            for (int set = 1; set <= all; set++) {
                int least = set & -set;
                hands[set] = size;
                for (int part = set; part > 0; part = (part - 1) & set) {
                    if (byOne[part] == 1 && (part & least) != 0) {
                        hands[set] = Math.min(hands[set], hands[set & ~part] + 1);
                    }
                }
            }
            return hands[all];
        }
    }

    /** What the finds that are seen can tell. */
    private static final class Study {
        private static final int MOST_BODIES = 8;

        private final State state;
        /** For each find the guns of which it may be; NONE if it is no case that is seen. */
        private final int[] caseGuns = new int[MOST_FINDS];
        private final int[] choices = new int[MOST_FINDS];
        private final int[] columns = new int[SIDE_CELLS];
        private final int[] tally = new int[CELLS];
        private final int[] bones = new int[MOST_BODIES];
        private int bodies;
        /** 1 for people who can be those of all bones that were looked at. */
        private final int[] named = new int[1 << MOST_PEOPLE];
        private final int[] facts = new int[8];

        Study(State ofState) {
            state = ofState;
        }

        void refresh() {
            Finds finds = state.finds;
            int rows = finds.nearRows();
            for (int f = 0; f < finds.size; f++) {
                boolean counts = finds.kind[f] == CASE && finds.isSeen(f, rows);
                caseGuns[f] = counts ? state.gunsOf(f) : NONE;
            }
        }

        private boolean isCase(int find) {
            return caseGuns[find] != NONE;
        }

        private boolean isSure(int find) {
            return isCase(find) && Integer.bitCount(caseGuns[find]) == 1;
        }

        int fewestGuns(int from, int to) {
            int size = gatherChoices(from, to);
            int best = (1 << state.guns.size) - 1;
            for (int guns = 0; guns < 1 << state.guns.size; guns++) {
                if (Integer.bitCount(guns) < Integer.bitCount(best) && meetsChoices(guns, size)) {
                    best = guns;
                }
            }
            return best;
        }

        private int gatherChoices(int from, int to) {
            int size = 0;
            for (int f = 0; f < state.finds.size; f++) {
                if (caseGuns[f] > 0 && Land.isInArea(state.finds.cell[f], from, to)) {
                    choices[size] = caseGuns[f];
                    size++;
                }
            }
            return size;
        }

        private boolean meetsChoices(int guns, int size) {
            for (int i = 0; i < size; i++) {
                if ((choices[i] & guns) == 0) {
                    return false;
                }
            }
            return true;
        }

        int gunsIn(int from, int to, boolean may) {
            int bits = 0;
            for (int f = 0; f < state.finds.size; f++) {
                boolean counts = may ? isCase(f) : isSure(f);
                if (counts && Land.isInArea(state.finds.cell[f], from, to)) {
                    bits |= caseGuns[f];
                }
            }
            return bits;
        }

        int unknownCases() {
            int unknown = 0;
            for (int f = 0; f < state.finds.size; f++) {
                if (caseGuns[f] == 0) {
                    unknown++;
                }
            }
            return unknown;
        }

        int modernCases() {
            int modernGuns = state.guns.madeBehind(state.day);
            int modern = 0;
            for (int f = 0; f < state.finds.size; f++) {
                if (caseGuns[f] > 0 && (caseGuns[f] & ~modernGuns) == 0) {
                    modern++;
                }
            }
            return modern;
        }

        int laterThings() {
            Finds finds = state.finds;
            int rows = finds.nearRows();
            int things = 0;
            for (int f = 0; f < finds.size; f++) {
                if (finds.kind[f] == LATER && finds.value[f] > state.day && finds.isSeen(f, rows)) {
                    things++;
                }
            }
            return things;
        }

        void fillWays(int gun, Ways ways) {
            ways.size = 0;
            for (int f = 0; f < state.finds.size; f++) {
                if (caseGuns[f] == 1 << gun && !ways.isFull()) {
                    ways.add(f, state.finds, state.land);
                }
            }
        }

        /** The columns of a side's sure cases in a row, in order: how many there are. */
        private int gatherColumns(int side, int row) {
            int guns = state.guns.ofSide(side);
            int bits = 0;
            for (int f = 0; f < state.finds.size; f++) {
                int cell = state.finds.cell[f];
                if (Land.row(cell) == row && isSure(f) && (caseGuns[f] & guns) != 0) {
                    bits |= 1 << Land.column(cell);
                }
            }
            int size = 0;
            for (int x = 0; x < SIDE_CELLS; x++) {
                if ((bits >> x & 1) == 1) {
                    columns[size] = x;
                    size++;
                }
            }
            return size;
        }

        private int stepFrom(int place) {
            return columns[place + 1] - columns[place];
        }

        int longestPiece(int side, int row, int off) {
            int steps = gatherColumns(side, row) - 1;
            int longest = 0;
            for (int begin = 0; begin < steps; begin++) {
                longest = Math.max(longest, pieceFrom(begin, steps, off));
            }
            return longest;
        }

        private int pieceFrom(int begin, int steps, int off) {
            int least = stepFrom(begin);
            int greatest = least;
            for (int i = begin; i < steps; i++) {
                least = Math.min(least, stepFrom(i));
                greatest = Math.max(greatest, stepFrom(i));
                if (greatest - least > off) {
                    return i - begin;
                }
            }
            return steps - begin;
        }

        int breakOf(int side, int row, int off) {
            int steps = gatherColumns(side, row) - 1;
            for (int i = 1; i < steps; i++) {
                if (stepFrom(i) - stepFrom(i - 1) > off) {
                    return columns[i];
                }
            }
            return NONE;
        }

        private void tallyCells(boolean casesAlone) {
            Finds finds = state.finds;
            int rows = finds.nearRows();
            Arrays.fill(tally, 0);
            for (int f = 0; f < finds.size; f++) {
                if (casesAlone ? isCase(f) : finds.isSeen(f, rows)) {
                    tally[finds.cell[f]]++;
                }
            }
        }

        int heapCount(int cases) {
            tallyCells(true);
            int heaps = 0;
            for (int cell = 0; cell < CELLS; cell++) {
                if (tally[cell] >= cases) {
                    heaps++;
                }
            }
            return heaps;
        }

        int firstHeap(int cases) {
            tallyCells(true);
            for (int cell = 0; cell < CELLS; cell++) {
                if (tally[cell] >= cases) {
                    return cell;
                }
            }
            return NONE;
        }

        /** Callers have a rate of 1 at least, so it can divide. */
        int minutesOf(int side, int rate) {
            int most = 0;
            for (int g = 0; g < state.guns.size; g++) {
                if (state.guns.side[g] == side) {
                    most = Math.max(most, (sureCases(g) + rate - 1) / rate);
                }
            }
            return most;
        }

        private int sureCases(int gun) {
            int sure = 0;
            for (int f = 0; f < state.finds.size; f++) {
                if (caseGuns[f] == 1 << gun) {
                    sure++;
                }
            }
            return sure;
        }

        int mostUnseen(int from, int to) {
            tallyCells(false);
            int rows = state.finds.nearRows();
            int most = 0;
            int cells = 0;
            for (int cell = 0; cell < CELLS; cell++) {
                most = Math.max(most, tally[cell]);
                if (Land.isInArea(cell, from, to) && (rows >> Land.row(cell) & 1) == 0) {
                    cells++;
                }
            }
            return most * cells;
        }

        boolean isBorneOut(int telling) {
            Finds finds = state.finds;
            if (!state.tellers.isPossible(telling, state.land)) {
                return false;
            }
            int rows = finds.nearRows();
            int cell = state.tellers.toldCell[telling];
            for (int f = 0; f < finds.size; f++) {
                if (finds.kind[f] != LATER && finds.isSeen(f, rows) && Land.far(finds.cell[f], cell) <= 1) {
                    return true;
                }
            }
            return false;
        }

        int mostApart() {
            int believed = 0;
            for (int i = 0; i < state.tellers.told; i++) {
                if (isBorneOut(i)) {
                    believed |= 1 << state.tellers.teller[i];
                }
            }
            int most = 0;
            for (int group = 0; group <= believed; group++) {
                if ((group & ~believed) == 0 && Integer.bitCount(group) > most && nobodyTalked(group)) {
                    most = Integer.bitCount(group);
                }
            }
            return most;
        }

        private boolean nobodyTalked(int group) {
            for (int a = 0; a < state.tellers.size; a++) {
                for (int b = 0; b < a; b++) {
                    boolean areBothIn = (group >> a & group >> b & 1) == 1;
                    if (areBothIn && state.tellers.mayHaveTalked(a, b)) {
                        return false;
                    }
                }
            }
            return true;
        }

        void gatherBones() {
            Finds finds = state.finds;
            int rows = finds.nearRows();
            bodies = 0;
            for (int f = 0; f < finds.size && bodies < MOST_BODIES; f++) {
                if (finds.kind[f] == BONES && finds.isSeen(f, rows)) {
                    bones[bodies] = f;
                    bodies++;
                }
            }
        }

        int placeOfBones(int find) {
            for (int i = 0; i < bodies; i++) {
                if (bones[i] == find) {
                    return i;
                }
            }
            return NONE;
        }

        int peopleFor(int place) {
            nameOthers(place);
            int bits = 0;
            for (int people = 0; people < named.length; people++) {
                if (named[people] == 1 && Integer.bitCount(people) == bodies - 1) {
                    bits |= state.finds.value[bones[place]] & ~people;
                }
            }
            return bits;
        }

        /** Marks which people all bones but one can be together. */
        private void nameOthers(int place) {
            Arrays.fill(named, 0);
            named[0] = 1;
            int done = 0;
            for (int i = 0; i < bodies; i++) {
                if (i != place) {
                    nameOne(state.finds.value[bones[i]], done);
                    done++;
                }
            }
        }

        private void nameOne(int choice, int done) {
            for (int people = 0; people < named.length; people++) {
                if (named[people] == 1 && Integer.bitCount(people) == done) {
                    for (int p = 0; p < MOST_PEOPLE; p++) {
                        if ((choice & ~people & 1 << p) != 0) {
                            named[people | 1 << p] = 1;
                        }
                    }
                }
            }
        }

        /** In the order in which the reader numbers the facts of stories. */
        void gatherFacts() {
            refresh();
            Finds finds = state.finds;
            int rows = finds.nearRows();
            Arrays.fill(facts, 0);
            for (int f = 0; f < finds.size; f++) {
                if (finds.isSeen(f, rows)) {
                    facts[finds.kind[f]]++;
                }
            }
            facts[4] = Integer.bitCount(fewestGuns(0, LAST_CELL));
            for (int i = 0; i < state.tellers.told; i++) {
                facts[5] += isBorneOut(i) ? 1 : 0;
            }
            facts[6] = heapCount(4);
            for (int row = 0; row < SIDE_CELLS; row++) {
                facts[7] = Math.max(facts[7], longestPiece(0, row, 1));
            }
        }

        boolean isTrue(int story) {
            Program program = state.stories[story];
            return program != null && program.answer(facts) != 0;
        }

        int tenThousandths(int story) {
            int all = 0;
            for (int i = 0; i < state.storyCount; i++) {
                all += isTrue(i) ? state.weights[i] : 0;
            }
            if (all == 0 || !isTrue(story)) {
                return 0;
            }
            return 10000 * state.weights[story] / all;
        }
    }
}
