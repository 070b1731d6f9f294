/** Promises 30 to 35: tellers, what they could see, who may have talked, whose bones. */
public final class TellersTest {
    public static void main(String[] args) {
        tellers();
        tellings();
        whatTheyCouldSee();
        whatFits();
        whoTalked();
        whoIsApart();
        whoseBones();
        theFirstEightBones();
        Check.finish("TellersTest");
    }

    private static void tellers() {
        GrassField x = new GrassField();
        Check.refuses("cell 256", Check.INDEX, () -> x.teller(256, 9, 1, 0));
        Check.refuses("cell -1", Check.INDEX, () -> x.teller(-1, 0, 1, 0));
        Check.refuses("from -1", Check.ARGUMENT, () -> x.teller(0, -1, 1, 0));
        Check.refuses("till 240", Check.ARGUMENT, () -> x.teller(0, 0, 240, 0));
        Check.refuses("till ahead of from", Check.ARGUMENT, () -> x.teller(0, 2, 1, 0));
        Check.refuses("listener -1", Check.ARGUMENT, () -> x.teller(0, 0, 1, -1));
        Check.refuses("listener 10", Check.ARGUMENT, () -> x.teller(0, 0, 1, 10));
        for (int i = 0; i < 8; i++) {
            Check.is("teller " + i, x.teller(255, 239, 239, 9), i);
        }
        Check.refuses("a 9th", Check.FULL, () -> x.teller(0, 0, 0, 0));
        Check.refuses("a wrong 9th", Check.ARGUMENT, () -> x.teller(0, 0, 0, 10));
        Check.is("tellers", x.count(7), 8);
    }

    private static void tellings() {
        GrassField x = new GrassField();
        Check.refuses("no teller", Check.INDEX, () -> x.tells(0, 0, 999));
        x.teller(0, 0, 0, 0);
        Check.refuses("teller -1", Check.INDEX, () -> x.tells(-1, 0, 0));
        Check.refuses("cell 256", Check.INDEX, () -> x.tells(0, 256, 999));
        Check.refuses("minute 240", Check.ARGUMENT, () -> x.tells(0, 0, 240));
        Check.refuses("minute -1", Check.ARGUMENT, () -> x.tells(0, 0, -1));
        for (int i = 0; i < 20; i++) {
            Check.is("telling " + i, x.tells(0, 255, 239), i);
        }
        Check.refuses("a 21st", Check.FULL, () -> x.tells(0, 0, 0));
        Check.refuses("a wrong 21st", Check.ARGUMENT, () -> x.tells(0, 0, 240));
        Check.is("tellings", x.count(8), 20);
    }

    private static void whatTheyCouldSee() {
        GrassField x = new GrassField();
        x.teller(0, 10, 20, 0);
        int[] minutes = {9, 10, 20, 21};
        boolean[] due = {false, true, true, false};
        for (int i = 0; i < 4; i++) {
            int telling = x.tells(0, 5, minutes[i]);
            Check.is("in minute " + minutes[i], x.could(telling, false) ? 1 : 0, due[i] ? 1 : 0);
        }
        x.ground(3, 3, 1);
        Check.no("behind a hill", x.could(1, false));
        x.ground(0, 0, 3);
        Check.yes("from a higher one", x.could(1, false));
        Check.refuses("no telling", Check.INDEX, () -> x.could(4, true));
        Check.refuses("telling -1", Check.INDEX, () -> x.could(-1, false));
    }

    private static void whatFits() {
        GrassField x = new GrassField();
        x.teller(0, 0, 9, 0);
        x.tells(0, 34, 5);
        x.tells(0, 34, 10);
        x.walk(3);
        Check.no("nothing is found", x.could(0, true));
        x.found(52, 0, 1);
        Check.no("2 far", x.could(0, true));
        x.other(3, 50, 0, 1800);
        Check.no("a later thing", x.could(0, true));
        x.other(1, 33, 0, 0);
        Check.no("not seen", x.could(0, true));
        x.other(2, 51, 0, 1);
        Check.yes("1 far", x.could(0, true));
        Check.no("it was not there", x.could(1, true));
        x.ground(17, 17, 1);
        Check.no("it could not see", x.could(0, true));
    }

    private static void whoTalked() {
        GrassField x = new GrassField();
        x.teller(0, 0, 9, 4);
        x.teller(9, 0, 9, 4);
        x.teller(9, 0, 9, 5);
        x.tells(0, 7, 1);
        x.tells(0, 8, 1);
        Check.no("one told nothing", x.talked(0, 1));
        x.tells(1, 9, 1);
        x.tells(2, 8, 1);
        Check.no("unlike cells", x.talked(0, 1));
        x.tells(1, 8, 200);
        Check.yes("one cell", x.talked(0, 1));
        Check.yes("and the other way", x.talked(1, 0));
        Check.no("unlike listeners", x.talked(0, 2));
        Check.no("with itself", x.talked(1, 1));
        GrassField first = new GrassField();
        first.teller(0, 0, 9, 4);
        first.teller(9, 0, 9, 4);
        first.tells(0, 7, 1);
        first.tells(1, 7, 1);
        Check.yes("by the first telling", first.talked(0, 1));
        Check.refuses("teller 3", Check.INDEX, () -> x.talked(0, 3));
        Check.refuses("teller -1", Check.INDEX, () -> x.talked(-1, 0));
    }

    private static void whoIsApart() {
        GrassField x = new GrassField();
        Check.is("nobody", x.apart(), 0);
        for (int i = 0; i < 5; i++) {
            x.teller(i, 0, 239, 1);
        }
        x.walk(0);
        x.found(8, 0, 1);
        for (int i = 0; i < 4; i++) {
            x.tells(i, 7 + i % 2, 0);
        }
        Check.is("two of four, by two cells", x.apart(), 2);
        x.tells(0, 8, 0);
        Check.is("one of them told of both", x.apart(), 2);
        x.tells(4, 100, 0);
        Check.is("one without a find", x.apart(), 2);
        x.tells(4, 9, 0);
        Check.is("one more", x.apart(), 3);
        x.tells(0, 9, 0);
        x.tells(2, 9, 0);
        Check.is("1 or 3, and 4", x.apart(), 2);
    }

    private static void whoseBones() {
        GrassField x = new GrassField();
        x.walk(0);
        x.other(2, 0, 0, 0b0011);
        x.other(2, 0, 0, 0b0110);
        x.other(2, 0, 0, 0b1100);
        Check.is("any", x.who(0), 0b0011);
        Check.is("any", x.who(1), 0b0110);
        x.other(2, 0, 0, 0b0001);
        Check.is("0 is taken", x.who(0), 0b0010);
        Check.is("1 is taken too", x.who(1), 0b0100);
        Check.is("and 2", x.who(2), 0b1000);
        Check.is("itself", x.who(3), 0b0001);
        x.other(2, 16, 0, 0b0001);
        Check.is("what is not seen takes nobody", x.who(2), 0b1000);
        Check.refuses("not seen", Check.ARGUMENT, () -> x.who(4));
        x.other(2, 1, 0, 0b1111);
        Check.is("five for four people", x.who(5), 0);
        x.found(0, 0, 1);
        Check.refuses("a case", Check.ARGUMENT, () -> x.who(6));
        Check.refuses("no find", Check.INDEX, () -> x.who(7));
        Check.refuses("find -1", Check.INDEX, () -> x.who(-1));
        GrassField one = new GrassField();
        one.walk(0);
        one.other(2, 0, 0, 255);
        Check.is("of all", one.who(0), 255);
    }

    private static void theFirstEightBones() {
        GrassField x = new GrassField();
        x.other(2, 16, 0, 1);
        for (int i = 0; i < 9; i++) {
            x.other(2, i, 0, 255);
        }
        x.walk(0);
        Check.is("the eighth that is seen", x.who(8), 255);
        Check.refuses("the ninth that is seen", Check.ARGUMENT, () -> x.who(9));
        x.walk(1);
        Check.is("one more is seen", x.who(0), 1);
        Check.is("it is that one", x.who(1), 254);
        Check.refuses("now the ninth", Check.ARGUMENT, () -> x.who(8));
    }
}
