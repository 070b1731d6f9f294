/** Promises 2, 3, 9, 10: the tape, laws as texts, the first wrong byte. */
public final class TapeTest {
    public static void main(String[] args) {
        feeds();
        ends();
        lawsThatAreRight();
        lawsThatAreWrong();
        lines();
        depths();
        lawsAreAtMostFour();
        faultOfTheLatestText();
        Check.finish("TapeTest");
    }

    private static void feeds() {
        GrassField x = new GrassField();
        for (int i = 1; i <= 20; i++) {
            Check.is("feed " + i, x.feed(0x66666666, -1, 0, Integer.MIN_VALUE, 1), 20 * i);
        }
        Check.is("a 21st feed", x.feed(0, 0, 0, 0, 0), GrassField.NONE);
        Check.yes("end(400)", x.end(400));
        Check.yes("end(381)", x.end(381));
        Check.is("feed behind 381", x.feed(0, 0, 0, 0, 0), GrassField.NONE);
        Check.yes("end(380)", x.end(380));
        Check.is("feed behind 380", x.feed(0, 0, 0, 0, 0), 400);
        GrassField y = new GrassField();
        y.feed(0x666c6565, 0x3b202020, 0x686f6c64, 0x20696620, 0x666f6573);
        Check.is("a second feed", y.feed(0x203c2032, 0, 0, 0, 0), 40);
        Check.yes("end(24)", y.end(24));
        Check.is("highest byte first: 'flee;   hold if foes < 2'", y.law(), 0);
        Check.is("fault of it", y.fault(), GrassField.NONE);
    }

    private static void ends() {
        GrassField x = new GrassField();
        Check.yes("end(0) of an empty tape", x.end(0));
        Check.no("end(1) of an empty tape", x.end(1));
        Check.no("end(-1)", x.end(-1));
        Check.no("end(least int)", x.end(Integer.MIN_VALUE));
        x.feed(0x666c6565, 0, 0, 0, 0);
        Check.no("end(21)", x.end(21));
        Check.yes("end(4)", x.end(4));
        Check.no("end(5) behind it", x.end(5));
        Check.is("law 'flee'", x.law(), 0);
        Check.no("the tape is used up", x.end(1));
        Check.is("feed behind a law", x.feed(0, 0, 0, 0, 0), 20);
    }

    private static void right(String text) {
        GrassField x = new GrassField();
        Check.tape(x, text);
        Check.is("law '" + text + "'", x.law(), 0);
        Check.is("fault of '" + text + "'", x.fault(), GrassField.NONE);
    }

    private static void wrong(String text, int place) {
        GrassField x = new GrassField();
        Check.tape(x, text);
        Check.refuses("law '" + text + "'", Check.ARGUMENT, () -> x.law());
        Check.is("fault of '" + text + "'", x.fault(), place);
        Check.is("laws behind '" + text + "'", x.count(3), 0);
        Check.no("the tape behind '" + text + "'", x.end(1));
    }

    private static void lawsThatAreRight() {
        right("");
        right("     ");
        right("shoot");
        right("  flee  ;join;hold ; drop  ");
        right("shoot if armed");
        right("shoot if not alone and armed or foes > 2");
        right("shoot if(armed)or(alone)");
        right("hold if 1<2");
        right("hold if 999*foes+3*friends+fear>0+minute+height+rounds+far");
        right("hold if 007 < far");
        right("hold if not not not (armed)");
        right("hold if 12<foes;flee if foes>12");
        right("shoot if ( armed and ( alone or not armed ) )");
    }

    private static void lawsThatAreWrong() {
        wrong(";", 0);
        wrong("  ;", 2);
        wrong("run", 0);
        wrong("shoot;", 6);
        wrong("shoot;  ", 8);
        wrong("shoot;;flee", 6);
        wrong("shootif armed", 0);
        wrong("shoot armed", 6);
        wrong("shoot if", 8);
        wrong("shoot if ", 9);
        wrong("shoot if foes", 13);
        wrong("shoot if foes <", 15);
        wrong("shoot if foes < ;", 16);
        wrong("shoot if foes = 2", 14);
        wrong("shoot if 1234 < foes", 9);
        wrong("shoot if foes > 1 + 1000", 20);
        wrong("shoot if 3 * 4 > foes", 13);
        wrong("shoot if foes * 4 > 2", 14);
        wrong("shoot if 3 foes > 2", 11);
        wrong("shoot if 3foes > 2", 10);
        wrong("shoot if armed alone", 15);
        wrong("shoot if armed and", 18);
        wrong("shoot if and armed", 9);
        wrong("shoot if (armed", 15);
        wrong("shoot if armed)", 14);
        wrong("shoot if ()", 10);
        wrong("shoot if (foes) > 1", 14);
        wrong("shoot if armed > 1", 15);
        wrong("shoot if foes > armed", 16);
        wrong("shoot if foes > 1 > 2", 18);
        wrong("shoot if foes + > 1", 16);
        wrong("shoot if held 2", 9);
        wrong("shoot if cases > 2", 9);
        wrong("shoot if foe > 2", 9);
        wrong("shoot if Foes > 2", 9);
        wrong("Shoot", 0);
        wrong("shoot\tif armed", 5);
        wrong("shoot if armed" + (char) 0, 14);
        wrong("shoot if armed or " + (char) 233, 18);
        wrong("if armed", 0);
        wrong("foes", 0);
        wrong("3", 0);
        wrong("not", 0);
        wrong("shoot if not", 12);
        wrong("shoot if armed;flee if", 22);
        wrong("shoot if armed;alone", 15);
    }

    private static void lines() {
        String ten = "hold;hold;hold;hold;hold;hold;hold;hold;hold;hold";
        right(ten);
        wrong(ten + ";", 50);
        wrong(ten + ";hold", 50);
        wrong(ten + " ; hold", 52);
        wrong(ten + "; 12345", 51);
        wrong(ten + ";;", 50);
        wrong("?".repeat(400), 0);
        wrong("flee" + " ".repeat(395) + ";", 400);
        right(" ".repeat(400));
        right("flee if 1<1" + "+1".repeat(194) + " ");
        wrong("flee if 1<1" + "+1".repeat(194) + "+", 400);
        wrong("flee if ((((((" + "(".repeat(386), 14);
    }

    private static void depths() {
        right("hold if ((((((armed))))))");
        wrong("hold if (((((((armed)))))))", 14);
        right("hold if not not not not not not armed");
        wrong("hold if not not not not not not not armed", 32);
        right("hold if not(not(not(armed)))or not(not(not(alone)))");
        wrong("hold if not(not(not((armed))))", 20);
        wrong("hold if (((((( not armed ))))))", 15);
        right("hold if (((((( armed )))))) and (((((( alone ))))))");
        wrong("hold if (((((( armed )))))", 26);
        StringBuilder wide = new StringBuilder("hold if 1");
        while (wide.length() < 395) {
            wide.append("+1");
        }
        right(wide + "<1");
        StringBuilder parts = new StringBuilder("hold if armed");
        while (parts.length() < 390) {
            parts.append(" or armed");
        }
        right(parts.toString());
    }

    private static void lawsAreAtMostFour() {
        GrassField x = new GrassField();
        for (int i = 0; i < 4; i++) {
            Check.is("law " + i, Check.law(x, "flee"), i);
        }
        Check.tape(x, "flee");
        Check.refuses("a fifth law", Check.FULL, () -> x.law());
        Check.is("fault of a fifth law", x.fault(), GrassField.NONE);
        Check.no("the tape behind a fifth law", x.end(1));
        Check.tape(x, "flee fast");
        Check.refuses("a fifth law that is wrong", Check.ARGUMENT, () -> x.law());
        Check.is("fault of that", x.fault(), 5);
        Check.is("laws", x.count(3), 4);
    }

    private static void faultOfTheLatestText() {
        GrassField x = new GrassField();
        Check.is("fault ahead of any", x.fault(), GrassField.NONE);
        Check.tape(x, "flee now");
        Check.refuses("law", Check.ARGUMENT, () -> x.law());
        Check.is("fault", x.fault(), 5);
        Check.tape(x, "cases");
        Check.is("fault with a new tape", x.fault(), 5);
        Check.refuses("story", Check.ARGUMENT, () -> x.story(1));
        Check.is("fault of the story", x.fault(), 5);
        Check.tape(x, "hold");
        x.image();
        x.law();
        Check.is("fault of a right law", x.fault(), GrassField.NONE);
        Check.tape(x, ")");
        Check.refuses("law", Check.ARGUMENT, () -> x.law());
        x.back();
        Check.is("fault is not gone back to", x.fault(), 0);
    }
}
