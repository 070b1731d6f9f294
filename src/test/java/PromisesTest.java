import java.lang.reflect.Method;

/** Each of the 42 promises has tests of its boundaries, which are named after it, in the class that is told for it. */
public final class PromisesTest {
    private static final int PROMISES = 42;
    private static final Class<?>[] TESTS = {Promise01To06Test.class, Promise07To10Test.class, Promise11To14Test.class,
        Promise15To21Test.class, Promise22To29Test.class, Promise30To36Test.class, Promise37To42Test.class};

    public static void main(String[] args) {
        int[] tests = new int[PROMISES + 1];
        for (Class<?> c : TESTS) {
            int least = Integer.parseInt(c.getName().substring(7, 9));
            int greatest = Integer.parseInt(c.getName().substring(11, 13));
            for (Method test : Check.promises(c)) {
                int promise = Integer.parseInt(test.getName().substring(7, 9));
                Check.yes(test.getName() + " is one of " + c.getName(), least <= promise && promise <= greatest);
                tests[promise]++;
            }
        }
        for (int promise = 1; promise <= PROMISES; promise++) {
            Check.yes("promise " + promise + " has " + tests[promise] + " tests of its boundaries", tests[promise] > 0);
        }
        Check.finish("PromisesTest");
    }
}
