import java.util.Objects;

/** What the tests share: it counts and prints what is not as due. */
final class Check {
    /** A call that answers a number (a boolean counts 1 or 0). */
    interface Call {
        double answer();
    }

    /** A call that answers nothing. */
    interface Deed {
        void run();
    }

    private static final int MOST_LINES = 20;
    private final String test;
    private int asked = 0;
    private int wrong = 0;
    private String sentence = "";

    Check(String test) {
        this.test = test;
    }

    void same(String what, Object want, Object got) {
        asked++;
        if (!Objects.equals(want, got)) {
            wrong++;
            if (wrong <= MOST_LINES) {
                String where = sentence.isEmpty() ? "" : "\"" + sentence + "\": ";
                System.out.println(test + ": " + where + what + ": due is " + want + ", answered " + got);
            }
        }
    }

    void same(String what, int want, int got) {
        same(what, (Object) want, (Object) got);
    }

    void isTrue(String what, boolean is) {
        same(what, (Object) true, (Object) is);
    }

    void index(String what, Deed deed) {
        same(what, (Object) "IndexOutOfBoundsException", thrownBy(deed));
    }

    void argument(String what, Deed deed) {
        same(what, (Object) "IllegalArgumentException", thrownBy(deed));
    }

    void state(String what, Deed deed) {
        same(what, (Object) "IllegalStateException", thrownBy(deed));
    }

    /** The simple name of the exception that is thrown, or null. */
    static String thrownBy(Deed deed) {
        try {
            deed.run();
            return null;
        } catch (RuntimeException e) {
            return nameOf(e);
        }
    }

    /** The machine's own exceptions are of other classes; what the library throws does not begin in our classes. */
    private static String nameOf(RuntimeException e) {
        StackTraceElement[] trace = e.getStackTrace();
        String origin = trace.length == 0 ? "" : trace[0].getClassName();
        boolean isOurs = origin.startsWith("FareLattice") || origin.startsWith("Model");
        return e.getClass().getSimpleName() + (isOurs ? "" : " of the library");
    }

    /** The answer of a call as a text, or the exception that it throws. */
    static String told(Call call) {
        try {
            return String.valueOf(call.answer());
        } catch (RuntimeException e) {
            return "throws " + nameOf(e);
        }
    }

    int asked() {
        return asked;
    }

    /** What is asked from now on is asked of this sentence; of none if it is empty. */
    void within(String quoted) {
        sentence = quoted;
    }

    boolean isAnyWrong() {
        return wrong > 0;
    }

    /** Ends the program, with 1 if anything was wrong or nothing was asked. */
    void close() {
        System.out.println(test + ": " + asked + " asked, " + wrong + " wrong");
        System.exit(wrong > 0 || asked == 0 ? 1 : 0);
    }
}
