/** Promises 4, 5, 6: heights, and which cell is seen from which. */
public final class GroundTest {
    public static void main(String[] args) {
        heights();
        wrongInputs();
        sight();
        Check.finish("GroundTest");
    }

    private static void heights() {
        GrassField x = new GrassField();
        Check.is("height(0) at first", x.height(0), 0);
        Check.is("height(255) at first", x.height(255), 0);
        x.ground(18, 36, 4);
        int high = 0;
        for (int cell = 0; cell < 256; cell++) {
            high += x.height(cell);
        }
        Check.is("an area of 3 by 2 cells", high, 24);
        Check.is("a corner", x.height(18), 4);
        Check.is("the other corner", x.height(36), 4);
        Check.is("between corners", x.height(19), 4);
        Check.is("beside the area", x.height(37), 0);
        x.ground(33, 20, 9);
        Check.is("corners the other way", x.height(17), 9);
        Check.is("corners the other way, up", x.height(36), 9);
        Check.is("not in it", x.height(16), 0);
        x.ground(0, 255, 1);
        Check.is("the whole field", x.height(200), 1);
        x.ground(200, 200, 0);
        Check.is("flat again", x.height(200), 0);
    }

    private static void wrongInputs() {
        GrassField x = new GrassField();
        Check.refuses("height(-1)", Check.INDEX, () -> x.height(-1));
        Check.refuses("height(256)", Check.INDEX, () -> x.height(256));
        Check.refuses("ground(-1, 0, 1)", Check.INDEX, () -> x.ground(-1, 0, 1));
        Check.refuses("ground(0, 256, 10)", Check.INDEX, () -> x.ground(0, 256, 10));
        Check.refuses("ground(0, 0, 10)", Check.ARGUMENT, () -> x.ground(0, 0, 10));
        Check.refuses("ground(0, 0, -1)", Check.ARGUMENT, () -> x.ground(0, 0, -1));
        Check.refuses("sees(0, 256)", Check.INDEX, () -> x.sees(0, 256));
        Check.refuses("sees(-1, 0)", Check.INDEX, () -> x.sees(-1, 0));
        Check.is("nothing has changed", x.height(0), 0);
    }

    private static void sight() {
        GrassField x = new GrassField();
        Check.yes("flat ground", x.sees(0, 255));
        x.ground(5, 5, 2);
        Check.no("over a hill", x.sees(0, 10));
        Check.no("and back", x.sees(10, 0));
        Check.yes("up the hill", x.sees(0, 5));
        Check.yes("a cell itself", x.sees(5, 5));
        x.ground(10, 10, 4);
        Check.yes("just over it to a height", x.sees(0, 10));
        x.ground(10, 10, 3);
        Check.no("a little below", x.sees(0, 10));
        GrassField own = new GrassField();
        own.ground(0, 0, 2);
        own.ground(3, 3, 1);
        Check.no("from a hill over one that is far from it", own.sees(0, 4));
        own.ground(3, 3, 0);
        own.ground(2, 2, 1);
        Check.yes("and over one that is just as high as the sight", own.sees(0, 4));
        GrassField y = new GrassField();
        y.ground(17, 17, 1);
        Check.no("0 to 18 goes by 17, for halves go up", y.sees(0, 18));
        Check.no("18 to 0 likewise", y.sees(18, 0));
        GrassField z = new GrassField();
        z.ground(33, 33, 1);
        Check.no("32 to 18 goes by 33: halves of y go up", z.sees(32, 18));
        Check.yes("32 to 18 does not go by 17", lowAt17().sees(32, 18));
    }

    private static GrassField lowAt17() {
        GrassField x = new GrassField();
        x.ground(17, 17, 9);
        return x;
    }
}
