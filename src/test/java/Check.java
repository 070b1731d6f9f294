import java.lang.reflect.InvocationTargetException;
import java.lang.reflect.Method;
import java.util.ArrayList;
import java.util.Comparator;
import java.util.List;
import java.util.function.Consumer;
import java.util.function.Supplier;

/** What all tests of the project use: answers that are due, exceptions that are due, texts on the tape. */
final class Check {
    static final Class<IndexOutOfBoundsException> INDEX = IndexOutOfBoundsException.class;
    static final Class<IllegalArgumentException> ARGUMENT = IllegalArgumentException.class;
    static final Class<UnsupportedOperationException> FULL = UnsupportedOperationException.class;
    static final Class<java.util.NoSuchElementException> NO_SUCH = java.util.NoSuchElementException.class;

    private static int passed = 0;
    private static int failed = 0;
    /** The test that runs, with a sign behind it; empty where tests are not run by name. */
    private static String running = "";

    private Check() { }

    static void is(String what, long got, long want) {
        if (got == want) {
            passed++;
        } else {
            fail(what + " answered " + got + ", due is " + want);
        }
    }

    static void yes(String what, boolean got) {
        is(what, got ? 1 : 0, 1);
    }

    static void no(String what, boolean got) {
        is(what, got ? 1 : 0, 0);
    }

    private static void fail(String why) {
        failed++;
        System.out.println(running + why);
    }

    static void refuses(String what, Class<? extends RuntimeException> kind, Runnable call) {
        String got = thrownBy(call);
        if (got.equals(kind.getName())) {
            passed++;
        } else {
            fail(what + " threw " + got + ", due is " + kind.getName());
        }
    }

    static void takes(String what, Runnable call) {
        String got = thrownBy(call);
        if (got.equals("nothing")) {
            passed++;
        } else {
            fail(what + " threw " + got + ", due is nothing");
        }
    }

    private static String thrownBy(Runnable call) {
        try {
            call.run();
            return "nothing";
        } catch (RuntimeException e) {
            return e.getClass().getName();
        }
    }

    /** The call is refused, and a field on which it was tried answers all as one on which it was not. */
    static void leaves(String what, Class<? extends RuntimeException> kind, Supplier<GrassField> maker,
            Consumer<GrassField> call) {
        GrassField tried = maker.get();
        refuses(what, kind, () -> call.accept(tried));
        alike(what, Rich.print(tried), Rich.print(maker.get()));
    }

    /** Likewise of the field that Rich makes. */
    static void leaves(String what, Class<? extends RuntimeException> kind, Consumer<GrassField> call) {
        leaves(what, kind, Rich::make, call);
    }

    static void alike(String what, List<String> got, List<String> want) {
        for (int i = 0; i < Math.max(got.size(), want.size()); i++) {
            String a = i < got.size() ? got.get(i) : "nothing";
            String b = i < want.size() ? want.get(i) : "nothing";
            if (!a.equals(b)) {
                fail("behind " + what + ": " + a + ", due is " + b);
                return;
            }
        }
        passed++;
    }

    /** Puts a text of at most 400 bytes behind an empty tape. */
    static void tape(GrassField x, String text) {
        for (int at = 0; at < text.length(); at += 20) {
            int[] n = new int[5];
            for (int i = 0; i < 20; i++) {
                int sign = at + i < text.length() ? text.charAt(at + i) & 0xff : 0;
                n[i / 4] = n[i / 4] << 8 | sign;
            }
            x.feed(n[0], n[1], n[2], n[3], n[4]);
        }
        x.end(text.length());
    }

    static int law(GrassField x, String text) {
        tape(x, text);
        return x.law();
    }

    static int story(GrassField x, String text, int weight) {
        tape(x, text);
        return x.story(weight);
    }

    /** The tests of a class that are named after promises, by their names. */
    static List<Method> promises(Class<?> tests) {
        List<Method> all = new ArrayList<>();
        for (Method m : tests.getDeclaredMethods()) {
            if (m.getName().matches("promise[0-9]{2}[A-Z].*")) {
                all.add(m);
            }
        }
        all.sort(Comparator.comparing(Method::getName));
        return all;
    }

    static void runPromises(Class<?> tests) {
        for (Method test : promises(tests)) {
            running = tests.getName() + "." + test.getName() + ": ";
            int before = passed + failed;
            try {
                test.setAccessible(true);
                test.invoke(null);
            } catch (InvocationTargetException e) {
                fail("ended with " + e.getCause());
            } catch (IllegalAccessException e) {
                fail("cannot be run");
            }
            if (passed + failed == before) {
                fail("tests nothing");
            }
        }
        running = "";
        finish(tests.getName());
    }

    static void finish(String name) {
        System.out.println(name + ": " + passed + " answers as due, " + failed + " not");
        if (failed != 0 || passed == 0) {
            System.exit(1);
        }
    }
}
