/** Promises 7, 8, 11 to 14: guns, people, and what they do in a minute. */
public final class FightTest {
    public static void main(String[] args) {
        guns();
        days();
        people();
        looks();
        runs();
        shoots();
        draws();
        flees();
        joins();
        holdsAndDrops();
        facts();
        fallenTakeNoTurn();
        findsAreLostBeyond120();
        Check.finish("FightTest");
    }

    private static void guns() {
        GrassField x = new GrassField();
        Check.refuses("side 2", Check.ARGUMENT, () -> x.gun(2, 0, 1870, 1));
        Check.refuses("side -1", Check.ARGUMENT, () -> x.gun(-1, 0, 1870, 1));
        Check.refuses("mark 16", Check.ARGUMENT, () -> x.gun(0, 16, 1870, 1));
        Check.refuses("mark -1", Check.ARGUMENT, () -> x.gun(0, -1, 1870, 1));
        Check.refuses("year 1799", Check.ARGUMENT, () -> x.gun(0, 0, 1799, 1));
        Check.refuses("year 2000", Check.ARGUMENT, () -> x.gun(0, 0, 2000, 1));
        Check.refuses("rounds 41", Check.ARGUMENT, () -> x.gun(0, 0, 1870, 41));
        Check.refuses("rounds -1", Check.ARGUMENT, () -> x.gun(0, 0, 1870, -1));
        Check.is("no gun yet", x.count(0), 0);
        for (int i = 0; i < 8; i++) {
            Check.is("gun " + i, x.gun(i % 2, 15, i < 4 ? 1800 : 1999, 40), i);
        }
        Check.refuses("a 9th gun", Check.FULL, () -> x.gun(0, 0, 1870, 1));
        Check.refuses("a wrong 9th gun", Check.ARGUMENT, () -> x.gun(0, 0, 1870, 99));
        Check.is("all rounds", x.count(11), 320);
    }

    private static void days() {
        GrassField x = new GrassField();
        Check.refuses("day(1799)", Check.ARGUMENT, () -> x.day(1799));
        Check.refuses("day(2000)", Check.ARGUMENT, () -> x.day(2000));
        x.walk(0);
        x.other(3, 0, 0, 1877);
        Check.is("1877 is later at first", x.later(0), 1);
        x.day(1877);
        Check.is("1877 is not later than itself", x.later(0), 0);
        x.day(1800);
        Check.is("1877 is later than 1800", x.later(0), 1);
        x.day(1999);
        Check.is("nothing is later than 1999", x.later(0), 0);
    }

    private static void people() {
        GrassField x = new GrassField();
        Check.refuses("no gun", Check.INDEX, () -> x.person(0, 0, 0, -1));
        x.gun(1, 0, 1870, 1);
        Check.refuses("gun -1", Check.INDEX, () -> x.person(-1, 0, 0, -1));
        Check.refuses("cell 256", Check.INDEX, () -> x.person(0, 256, 99, -1));
        Check.refuses("law 0 of none", Check.INDEX, () -> x.person(0, 0, 99, 0));
        Check.refuses("law -2", Check.INDEX, () -> x.person(0, 0, 0, -2));
        Check.refuses("fear 10", Check.ARGUMENT, () -> x.person(0, 0, 10, -1));
        Check.refuses("fear -1", Check.ARGUMENT, () -> x.person(0, 0, -1, -1));
        Check.is("person", x.person(0, 7, 9, -1), 0);
        Check.refuses("the gun is had", Check.ARGUMENT, () -> x.person(0, 7, 9, -1));
        GrassField y = new GrassField();
        y.gun(0, 0, 1870, 0);
        Check.law(y, "drop");
        for (int i = 0; i < 8; i++) {
            Check.is("person " + i, y.person(0, i, 0, 0), i);
            y.run(1);
        }
        Check.refuses("a 9th person", Check.FULL, () -> y.person(0, 0, 0, 0));
        Check.refuses("a wrong 9th person", Check.ARGUMENT, () -> y.person(0, 0, 10, 0));
        Check.is("people", y.count(1), 8);
    }

    private static void looks() {
        GrassField x = new GrassField();
        x.gun(0, 0, 1870, 1);
        x.gun(1, 0, 1870, 1);
        x.gun(1, 0, 1870, 1);
        x.gun(0, 0, 1870, 1);
        Check.law(x, "hold");
        x.person(1, 20, 6, 0);
        x.person(0, 23, 1, -1);
        x.person(2, 22, 1, -1);
        x.person(3, 24, 1, -1);
        int[] due = {1, 20, 6, 1, 1, 0, 1, 1};
        for (int what = 0; what < 8; what++) {
            Check.is("look(0, " + what + ")", x.look(0, what), due[what]);
        }
        Check.is("law of none", x.look(1, 5), GrassField.NONE);
        Check.refuses("look(0, 8)", Check.NO_SUCH, () -> x.look(0, 8));
        Check.refuses("look(0, -1)", Check.NO_SUCH, () -> x.look(0, -1));
        Check.refuses("look(4, 9)", Check.INDEX, () -> x.look(4, 9));
        Check.refuses("look(-1, 0)", Check.INDEX, () -> x.look(-1, 0));
    }

    private static void runs() {
        GrassField x = new GrassField();
        Check.refuses("run(0)", Check.ARGUMENT, () -> x.run(0));
        Check.refuses("run(61)", Check.ARGUMENT, () -> x.run(61));
        Check.refuses("run(greatest int)", Check.ARGUMENT, () -> x.run(Integer.MAX_VALUE));
        Check.is("run(60)", x.run(60), 60);
        Check.is("run(60)", x.run(60), 120);
        Check.is("run(60)", x.run(60), 180);
        Check.refuses("240 would have gone", Check.ARGUMENT, () -> x.run(60));
        Check.is("minutes gone", x.count(6), 180);
        Check.is("run(59)", x.run(59), 239);
        Check.refuses("none is left", Check.ARGUMENT, () -> x.run(1));
    }

    private static GrassField twoFoes(String law, int rounds, int cell, int foeCell) {
        GrassField x = new GrassField();
        x.gun(0, 3, 1870, rounds);
        x.gun(1, 7, 1870, 5);
        Check.law(x, law);
        x.person(0, cell, 4, 0);
        x.person(1, foeCell, 0, -1);
        return x;
    }

    private static void shoots() {
        GrassField x = twoFoes("shoot", 2, 0, 16 * 10);
        x.run(11);
        Check.is("two rounds, two cases and two balls", x.count(4), 4);
        Check.is("all rounds", x.count(11), 5);
        Check.is("a case", x.about(0, 0), 0);
        Check.is("where it was shot", x.about(0, 1), 0);
        Check.is("its depth", x.about(0, 2), 1);
        Check.is("its mark", x.about(0, 3), 8);
        Check.is("a ball", x.about(3, 0), 1);
        Check.is("where it came", x.about(3, 1), 160);
        Check.is("its depth", x.about(3, 2), 2);
        Check.is("its side", x.about(3, 3), 0);
        Check.is("who has no rounds holds: fear 4 less 9, 0 at least", x.look(0, 2), 0);
        GrassField alone = new GrassField();
        alone.gun(0, 3, 1870, 9);
        Check.law(alone, "shoot");
        alone.person(0, 0, 5, 0);
        alone.run(2);
        Check.is("without a foe one holds", alone.look(0, 2), 3);
        Check.is("and does not shoot", alone.count(11), 9);
        GrassField deep = twoFoes("shoot if minute > 9", 1, 0, 16 * 15);
        deep.run(10);
        Check.is("depth of minute 10", deep.about(0, 2), 0);
    }

    private static void draws() {
        // from seed 42 on the draws modulo 12 are computed here anew
        int seed = 42;
        GrassField x = twoFoes("shoot", 40, 0, 6);
        x.seed(42);
        int minute = 0;
        boolean fell = false;
        for (int i = 0; i < 40 && !fell; i++) {
            seed = seed * 1103515245 + 12345;
            fell = ((seed >>> 16) & 0x7fff) % 12 < 4;
            minute = x.run(1);
            Check.is("living in minute " + minute, x.count(2), fell ? 1 : 2);
        }
        Check.yes("someone fell", fell);
        int bones = x.count(4) - 1;
        Check.is("bones", x.about(bones, 0), 2);
        Check.is("where", x.about(bones, 1), 6);
        Check.is("of whom", x.about(bones, 3), 2);
        Check.is("who fell has the gun still", x.look(1, 0), 1);
        Check.refuses("so no other has it", Check.ARGUMENT, () -> x.person(1, 0, 0, -1));
        GrassField far = twoFoes("shoot", 40, 0, 10);
        far.run(40);
        Check.is("nobody falls 10 far", far.count(2), 2);
    }

    private static void flees() {
        GrassField x = twoFoes("flee", 1, 17, 0);
        x.run(1);
        Check.is("the least of the farthest", x.look(0, 1), 2);
        GrassField corner = twoFoes("flee", 1, 255, 0);
        corner.run(1);
        Check.is("in the corner: the least cell that is as far", corner.look(0, 1), 239);
        GrassField between = twoFoes("flee", 1, 16 * 8 + 8, 16 * 8 + 6);
        between.gun(1, 0, 1870, 1);
        between.person(2, 16 * 8 + 10, 0, -1);
        between.run(1);
        Check.is("between two foes, of cells that are as far the least", between.look(0, 1), 16 * 7 + 8);
        Check.is("up and to the left", fled(8, 8, 9, 9), 16 * 7 + 7);
        Check.is("to the left edge", fled(1, 5, 3, 5), 64);
        Check.is("to the lowest row", fled(5, 14, 5, 12), 244);
        Check.is("to the right edge", fled(14, 5, 12, 5), 16 * 4 + 15);
        Check.is("to the highest row", fled(5, 1, 5, 3), 4);
        GrassField alone = new GrassField();
        alone.gun(0, 0, 1870, 1);
        Check.law(alone, "flee");
        alone.person(0, 100, 3, 0);
        alone.run(3);
        Check.is("without a foe one stays", alone.look(0, 1), 100);
        Check.is("with one's fear", alone.look(0, 2), 3);
    }

    private static int fled(int x, int y, int foeX, int foeY) {
        GrassField field = twoFoes("flee", 1, 16 * y + x, 16 * foeY + foeX);
        field.run(1);
        return field.look(0, 1);
    }

    private static void joins() {
        GrassField x = new GrassField();
        x.gun(0, 0, 1870, 1);
        x.gun(0, 0, 1870, 1);
        x.gun(0, 0, 1870, 1);
        Check.law(x, "join");
        x.person(0, 136, 0, 0);
        x.run(1);
        Check.is("without a friend one stays", x.look(0, 1), 136);
        x.person(1, 136 + 4, 0, -1);
        x.person(2, 136 - 4, 0, -1);
        x.run(1);
        Check.is("to the least of two friends, by the least cell", x.look(0, 1), 136 - 15);
        x.run(2);
        Check.is("beside", x.look(0, 1), 136 - 13);
        x.run(1);
        Check.is("at the friend's cell", x.look(0, 1), 140);
        x.run(1);
        Check.is("and there one stays", x.look(0, 1), 140);
        GrassField up = new GrassField();
        up.gun(1, 0, 1870, 1);
        up.gun(1, 0, 1870, 1);
        Check.law(up, "join");
        up.person(0, 16 * 6 + 6, 0, -1);
        up.person(1, 16 * 8 + 8, 0, 0);
        up.run(1);
        Check.is("up and to the left", up.look(1, 1), 16 * 7 + 7);
    }

    private static void holdsAndDrops() {
        GrassField x = new GrassField();
        x.gun(0, 0, 1870, 3);
        Check.law(x, "drop if minute > 1;hold if fear > 7");
        x.person(0, 0, 9, 0);
        x.run(1);
        Check.is("hold takes fear", x.look(0, 2), 8);
        Check.is("a gun", x.look(0, 0), 0);
        x.run(1);
        Check.is("drop leaves fear", x.look(0, 2), 8);
        Check.is("no gun", x.look(0, 0), GrassField.NONE);
        Check.is("side", x.look(0, 4), 0);
        Check.is("another one has the gun", x.person(0, 0, 0, -1), 1);
        Check.is("no line: one holds", fearUnder("", 5), 4);
        Check.is("no line that is true: one holds", fearUnder("flee if foes > 0", 5), 4);
        Check.is("the first line that is true", fearUnder("flee if armed;hold", 5), 5);
        Check.is("fear is 0 at least", fearUnder("hold", 0), 0);
        GrassField crowd = new GrassField();
        crowd.gun(0, 0, 1870, 0);
        crowd.person(0, 0, 8, -1);
        for (int i = 1; i < 8; i++) {
            crowd.gun(1, 0, 1870, 0);
            crowd.person(i, i < 4 ? 3 : 4, 0, -1);
        }
        crowd.run(1);
        Check.is("three foes near: 9 at most, then it holds", crowd.look(0, 2), 8);
        Check.is("a foe, and friends within 2", crowd.look(1, 2), 0);
    }

    private static int fearUnder(String law, int fear) {
        GrassField x = new GrassField();
        x.gun(0, 0, 1870, 3);
        Check.law(x, law);
        x.person(0, 0, fear, 0);
        x.run(1);
        return x.look(0, 2);
    }

    /** With "drop if C" the gun tells whether C was true. */
    private static boolean isTrue(String condition) {
        GrassField x = new GrassField();
        x.gun(0, 0, 1870, 7);
        x.gun(1, 0, 1870, 7);
        x.gun(1, 0, 1870, 7);
        x.gun(0, 0, 1870, 7);
        x.gun(0, 0, 1870, 7);
        Check.law(x, "drop if " + condition);
        x.ground(0, 0, 6);
        x.person(0, 0, 4, 0);
        x.person(1, 3, 0, -1);
        x.person(2, 4, 0, -1);
        x.person(3, 2, 0, -1);
        x.person(4, 33, 0, -1);
        x.run(1);
        return x.look(0, 0) == GrassField.NONE;
    }

    private static void facts() {
        Check.yes("foes", isTrue("foes < 2 and foes > 0"));
        Check.yes("friends", isTrue("friends < 3 and friends > 1"));
        Check.yes("fear behind its change", isTrue("fear < 4 and fear > 2"));
        Check.yes("minute", isTrue("minute < 2 and minute > 0"));
        Check.yes("height", isTrue("height < 7 and height > 5"));
        Check.yes("rounds", isTrue("rounds < 8 and rounds > 6"));
        Check.yes("far", isTrue("far < 4 and far > 2"));
        Check.yes("armed", isTrue("armed"));
        Check.no("alone", isTrue("alone"));
        Check.yes("not alone", isTrue("not alone"));
        Check.no("not armed", isTrue("not armed"));
        Check.no("alone and armed", isTrue("alone and armed"));
        Check.yes("armed and armed", isTrue("armed and armed"));
        Check.yes("armed or alone or alone", isTrue("armed or alone or alone"));
        Check.no("alone or alone", isTrue("alone or alone"));
        Check.no("armed and (alone or alone)", isTrue("armed and (alone or alone)"));
        Check.yes("armed and (alone or armed)", isTrue("armed and (alone or armed)"));
        Check.no("alone and (armed or armed)", isTrue("alone and (armed or armed)"));
        Check.yes("deep ones", isTrue("armed and(alone or armed and(alone or armed and(alone or armed and(alone or "
            + "armed and(alone or armed and(alone or 1 < 2+3*foes))))))"));
        Check.no("deep ones", isTrue("armed and(alone or armed and(alone or armed and(alone or armed and(alone or "
            + "armed and(alone or armed and(alone or 5 < 2+3*foes))))))"));
        Check.yes("and binds more than or", isTrue("armed or armed and alone"));
        Check.yes("and binds more than or", isTrue("alone and armed or armed"));
        Check.no("( )", isTrue("(armed or armed) and alone"));
        Check.no("not binds most", isTrue("not armed and alone"));
        Check.yes("not of ( )", isTrue("not (armed and alone)"));
        Check.yes("sums", isTrue("3*foes+2*friends+1 > 7"));
        Check.no("sums", isTrue("3*foes+2*friends+1 > 8"));
        Check.yes("sums to the right", isTrue("7 < 3*foes+2*friends+1"));
        Check.no("less is less", isTrue("5 < 5"));
        Check.no("more is more", isTrue("5 > 5"));
        Check.yes("or of three", isTrue("alone or alone or armed"));
        Check.no("far without a foe is 99", fearUnder("flee if far > 99", 5) == 5);
        Check.yes("far without a foe is 99", fearUnder("flee if far > 98", 5) == 5);
        Check.yes("alone without friends", fearUnder("flee if alone", 5) == 5);
        Check.is("the last round is a round", lastRound(), 4);
        GrassField dropped = new GrassField();
        dropped.gun(0, 0, 1870, 9);
        Check.law(dropped, "drop if minute < 2;flee if armed or rounds > 0");
        dropped.person(0, 0, 5, 0);
        dropped.run(2);
        Check.is("not armed without a gun", dropped.look(0, 2), 4);
        GrassField x = new GrassField();
        x.gun(0, 0, 1870, 0);
        Check.law(x, "flee if armed or rounds > 0");
        x.person(0, 0, 5, 0);
        x.run(1);
        Check.is("not armed without rounds", x.look(0, 2), 4);
    }

    private static int lastRound() {
        GrassField x = new GrassField();
        x.gun(0, 0, 1870, 1);
        Check.law(x, "flee if armed");
        x.person(0, 0, 4, 0);
        x.run(1);
        return x.look(0, 2);
    }

    private static void fallenTakeNoTurn() {
        GrassField x = new GrassField();
        x.gun(0, 0, 1870, 3);
        x.gun(1, 0, 1870, 3);
        Check.law(x, "shoot");
        x.person(0, 0, 0, 0);
        x.person(1, 1, 5, 0);
        x.run(1);
        Check.is("the first one shot", x.count(2), 1);
        Check.is("the second one has all rounds", x.count(11), 5);
        Check.is("and its fear", x.look(1, 2), 5);
        Check.is("foes of the first one", x.look(0, 6), 0);
        Check.is("foes of the fallen one", x.look(1, 6), 1);
    }

    private static void findsAreLostBeyond120() {
        GrassField x = twoFoes("shoot", 40, 0, 16 * 12);
        for (int i = 0; i < 117; i++) {
            x.found(1, 0, 1);
        }
        x.run(2);
        Check.is("a case and a ball, and a case", x.count(4), 120);
        Check.is("the last one is a case", x.about(119, 0), 0);
        x.run(1);
        Check.is("rounds go on", x.count(11), 42);
    }
}
