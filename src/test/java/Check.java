/** What all tests of the project use: answers that are due, exceptions that are due, texts on the tape. */
final class Check {
    static final Class<IndexOutOfBoundsException> INDEX = IndexOutOfBoundsException.class;
    static final Class<IllegalArgumentException> ARGUMENT = IllegalArgumentException.class;
    static final Class<UnsupportedOperationException> FULL = UnsupportedOperationException.class;
    static final Class<java.util.NoSuchElementException> NO_SUCH = java.util.NoSuchElementException.class;

    private static int passed = 0;
    private static int failed = 0;

    private Check() { }

    static void is(String what, long got, long want) {
        if (got == want) {
            passed++;
        } else {
            failed++;
            System.out.println(what + " answered " + got + ", due is " + want);
        }
    }

    static void yes(String what, boolean got) {
        is(what, got ? 1 : 0, 1);
    }

    static void no(String what, boolean got) {
        is(what, got ? 1 : 0, 0);
    }

    static void refuses(String what, Class<? extends RuntimeException> kind, Runnable call) {
        String got = "nothing";
        try {
            call.run();
        } catch (RuntimeException e) {
            got = e.getClass().getName();
        }
        if (got.equals(kind.getName())) {
            passed++;
        } else {
            failed++;
            System.out.println(what + " threw " + got + ", due is " + kind.getName());
        }
    }

    /** Puts a text of at most 400 bytes behind an empty tape. */
    static void tape(GrassField x, String text) {
        for (int at = 0; at < text.length(); at += 20) {
            int[] n = new int[5];
            for (int i = 0; i < 20; i++) {
                int sign = at + i < text.length() ? text.charAt(at + i) & 0xff : 0;
                n[i / 4] = n[i / 4] << 8 | sign;
            }
            x.feed(n[0], n[1], n[2], n[3], n[4]);
        }
        x.end(text.length());
    }

    static int law(GrassField x, String text) {
        tape(x, text);
        return x.law();
    }

    static int story(GrassField x, String text, int weight) {
        tape(x, text);
        return x.story(weight);
    }

    static void finish(String name) {
        System.out.println(name + ": " + passed + " answers as due, " + failed + " not");
        if (failed != 0 || passed == 0) {
            System.exit(1);
        }
    }
}
