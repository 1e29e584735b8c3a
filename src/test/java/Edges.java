import java.util.List;

/** Asks calls at the edges of what they take: each time on new objects, beside a twin that is not asked. */
final class Edges {
    static final String INDEX = "throws IndexOutOfBoundsException";
    static final String ARGUMENT = "throws IllegalArgumentException";
    static final String STATE = "throws IllegalStateException";

    /** Nothing is called ahead. */
    static final Calls NEW = x -> { };

    /** What is called ahead on a new object. */
    interface Calls {
        void on(FareLattice x);
    }

    /** A call that is looked at. */
    interface Ask {
        double of(FareLattice x);
    }

    /** A call with one of its arguments left open. */
    interface With {
        double of(FareLattice x, int value);
    }

    private final Check check;

    Edges(Check check) {
        this.check = check;
    }

    static FareLattice after(Calls ahead) {
        FareLattice x = new FareLattice();
        ahead.on(x);
        return x;
    }

    /** The least and the most value are taken; what lies beyond them is refused and changes nothing. */
    void range(int least, int most, String beyond, Calls ahead, With call) {
        takes(ahead, call, least, most);
        refuses(beyond, ahead, call, least - 1, most + 1, Integer.MIN_VALUE, Integer.MAX_VALUE);
    }

    /** Each of these values is taken. */
    void takes(Calls ahead, With call, int... values) {
        for (int value : values) {
            taken(ahead, x -> call.of(x, value));
        }
    }

    /** Each of these values is refused, and changes nothing. */
    void refuses(String exception, Calls ahead, With call, int... values) {
        Ask[] asks = new Ask[values.length];
        for (int i = 0; i < values.length; i++) {
            int value = values[i];
            asks[i] = x -> call.of(x, value);
        }
        refused(exception, ahead, asks);
    }

    /** Each of the calls is taken by an object of its own. */
    void taken(Calls ahead, Ask... asks) {
        for (int i = 0; i < asks.length; i++) {
            Ask ask = asks[i];
            FareLattice x = after(ahead);
            String told = Check.told(() -> ask.of(x));
            check.isTrue("call " + i + " is taken, told " + told, !told.startsWith("throws"));
        }
    }

    /** Each of the calls throws this exception, and nothing that can be asked then or later is changed by any. */
    void refused(String exception, Calls ahead, Ask... asks) {
        FareLattice x = after(ahead);
        FareLattice twin = after(ahead);
        List<Integer> legs = View.legsOf(twin);
        String before = View.quiet(twin, legs);
        for (int i = 0; i < asks.length; i++) {
            Ask ask = asks[i];
            check.same("call " + i + " that is refused", exception, (Object) Check.told(() -> ask.of(x)));
            check.isTrue("call " + i + " that is refused changes nothing", before.equals(View.quiet(x, legs)));
        }
        check.isTrue("calls that are refused change nothing that comes later", View.whole(twin).equals(View.whole(x)));
    }
}
