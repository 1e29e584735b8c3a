import java.util.List;

/** Promises 36 to 39 and what the document says ahead of all, sentence by sentence, at the edges of each. */
public final class EdgeTimeTest {
    private static final Check CHECK = new Check("EdgeTimeTest");
    private static final Edges EDGES = new Edges(CHECK);
    private static final Sentences DOC = new Sentences(CHECK, List.of("What it is", "Promise 36: pass",
        "Promise 37: denied", "Promise 38: points", "Promise 39: owed"));
    private static final String INDEX = Edges.INDEX;
    private static final String ARGUMENT = Edges.ARGUMENT;

    /** A leg 1 of carrier 1 and a leg 101 of carrier 2 behind it, with two ticketed parties and one that is held. */
    private static void parties(FareLattice x) {
        Networks.daily(x, 1, 0, 1, 8, 20, 60);
        Networks.daily(x, 2, 1, 2, 6, 1, 60);
        x.fare(-1, 0, 2, 0, 210);
        Networks.ticketed(x, 9, 4, 1, 102);
        Networks.ticketed(x, 1, 0, 1, 102);
        Networks.held(x, 5, 0, 1, 102);
        x.pass(20);
        x.check(0, 0);
        x.check(1, 0);
    }

    // ---- what it is

    private static void whatItIs() {
        DOC.in("What it is");
        DOC.names("Reservations: flights by days and zones, buckets in nests, fares with rules and the cheapest way to build "
            + "a price out of them, taxes at edges, holds with limits, parties that part, tickets whose coupons are used one "
            + "by one, refunds, waitlists that clear in order, overbooking with volunteers, aircraft that bring delays along, "
            + "days on which flights are cancelled and people are rebooked, shares between carriers, and points.");
        DOC.asks("An object is used for at most 512 calls after it has been made; what later calls answer is free.",
            EdgeTimeTest::fiveHundredAndTwelveCalls);
    }

    /** The call 512 answers as the first one does, also behind calls that were refused. */
    private static void fiveHundredAndTwelveCalls() {
        FareLattice x = new FareLattice();
        for (int i = 1; i <= 512; i++) {
            CHECK.same("call " + i, 100 * i, x.pass(100));
        }
        FareLattice y = new FareLattice();
        for (int i = 1; i < 512; i++) {
            CHECK.index("call " + i, () -> y.booking(0));
        }
        CHECK.same("call 512", 1, y.pass(1));
    }

    // ---- promise 36

    private static void pass() {
        DOC.in("Promise 36: pass");
        DOC.asks("Lets hours pass.", EdgeTimeTest::hoursPass);
        DOC.asks("- `hours`: 1 to 100", () -> {
            EDGES.range(1, 100, ARGUMENT, Edges.NEW, (x, hours) -> x.pass(hours));
            EDGES.range(1, 100, ARGUMENT, EdgeTimeTest::parties, (x, hours) -> x.pass(hours));
        });
        DOC.asks("Returns the time then.", () -> {
            FareLattice x = new FareLattice();
            CHECK.same("the least behind the hour 0", 1, x.pass(1));
            CHECK.same("the most behind that", 101, x.pass(100));
            CHECK.same("and so on", 102, x.pass(1));
        });
        DOC.asks("Throws `IllegalArgumentException` if hours is out of range", () -> {
            EDGES.refuses(ARGUMENT, Edges.NEW, (x, hours) -> x.pass(hours), 0, 101, -1);
            EDGES.refuses(ARGUMENT, EdgeTimeTest::parties, (x, hours) -> x.pass(hours), 0, 101, -100);
        });
    }

    private static void hoursPass() {
        FareLattice one = Edges.after(EdgeTimeTest::parties);
        FareLattice many = Edges.after(EdgeTimeTest::parties);
        for (int i = 0; i < 100; i++) {
            one.pass(1);
        }
        many.pass(100);
        CHECK.isTrue("100 hours are 100 times one", View.whole(one).equals(View.whole(many)));
        FareLattice x = Edges.after(EdgeTimeTest::parties);
        x.pass(11);
        CHECK.same("nobody has flown an hour ahead", 1, x.coupon(0, 0) % 10);
        x.pass(1);
        CHECK.same("at the hour", 2, x.coupon(0, 0) % 10);
        Networks.passTo(x, 32, 2000);
        CHECK.same("behind all legs", 2001, x.pass(1));
    }

    // ---- promise 37

    private static void denied() {
        DOC.in("Promise 37: denied");
        DOC.asks("Returns how many persons were denied in all.", EdgeTimeTest::deniedInAll);
    }

    private static void deniedInAll() {
        FareLattice x = new FareLattice();
        CHECK.same("nobody", 0, x.denied());
        Networks.daily(x, 0, 1, 12, 2, 9);
        Networks.limits(x, 0, 19);
        x.fare(0, 0, 1, 0, 100);
        int[] persons = {9, 9, 1};
        for (int party : persons) {
            Networks.ticketed(x, party, -1, 1);
        }
        x.pass(20);
        x.check(0, 0);
        x.pass(15);
        x.check(1, 0);
        x.check(2, 0);
        CHECK.same("nobody ahead of the departure", 0, x.denied());
        x.pass(1);
        CHECK.same("10 of 19 for 9 seats", 10, x.denied());
        x.pass(23);
        CHECK.same("both go on with the next day's leg", 200, x.coupon(1, 1));
        x.check(1, 1);
        CHECK.same("for which there are just enough seats, and one more", 10, x.check(2, 1));
        x.pass(1);
        CHECK.same("so one more is denied", 11, x.denied());
        x.cancel(1);
        x.cancel(2);
        CHECK.same("also when they are cancelled", 11, x.denied());
    }

    // ---- promise 38

    private static void points() {
        DOC.in("Promise 38: points");
        DOC.asks("Returns the points of a member.", () -> {
            FareLattice x = Edges.after(EdgeTimeTest::parties);
            x.pass(12);
            CHECK.same("200 for each of 9", 1800, x.points(4));
            CHECK.same("of one; not of what is held", 200, x.points(0));
            CHECK.same("others have their own", 0, x.points(1) + x.points(2) + x.points(3));
        });
        DOC.asks("- `member`: 0 to 4", () -> EDGES.range(0, 4, INDEX, EdgeTimeTest::parties, (x, m) -> x.points(m)));
        DOC.asks("Returns the points.", () -> {
            FareLattice x = Edges.after(EdgeTimeTest::parties);
            CHECK.same("none at first", 0, x.points(4));
            x.pass(12);
            x.check(0, 1);
            Networks.passTo(x, 32, 53);
            CHECK.same("as many the hour ahead", 1800, x.points(4));
            x.pass(1);
            CHECK.same("10 more for each", 1890, x.points(4));
            x.cancel(0);
            CHECK.same("they stay", 1890, x.points(4));
        });
        DOC.asks("Throws `IndexOutOfBoundsException` if there is no such member", () -> {
            EDGES.refuses(INDEX, Edges.NEW, (x, m) -> x.points(m), -1, 5);
            EDGES.refuses(INDEX, EdgeTimeTest::parties, (x, m) -> x.points(m), -1, -2, 5, Integer.MAX_VALUE);
        });
    }

    // ---- promise 39

    private static void owed() {
        DOC.in("Promise 39: owed");
        DOC.asks("Returns what a seller owes a carrier.", () -> {
            FareLattice x = Edges.after(EdgeTimeTest::parties);
            for (int pair = 0; pair < 9; pair++) {
                CHECK.same("nothing at first", 0, x.owed(pair / 3, pair % 3));
            }
            x.pass(12);
            x.check(0, 1);
            Networks.passTo(x, 32, 56);
            CHECK.same("10 for each of 9 that flew", 90, x.owed(1, 2));
            CHECK.same("not the other way", 0, x.owed(2, 1));
        });
        DOC.asks("- `seller`: 0 to 2", () -> EDGES.range(0, 2, INDEX, EdgeTimeTest::parties, (x, v) -> x.owed(v, 2)));
        DOC.asks("- `carrier`: 0 to 2", () -> EDGES.range(0, 2, INDEX, EdgeTimeTest::parties, (x, v) -> x.owed(0, v)));
        DOC.asks("Returns the amount; for the seller itself what it has earned of its own bookings.", () -> {
            FareLattice x = Edges.after(EdgeTimeTest::parties);
            x.pass(12);
            CHECK.same("200 for each of 10", 2000, x.owed(1, 1));
            CHECK.same("the other one has none of its own", 0, x.owed(2, 2));
            CHECK.same("nor has the third", 0, x.owed(0, 0));
        });
        DOC.asks("Throws `IndexOutOfBoundsException` if there is no such carrier, of either", () ->
            EDGES.refused(INDEX, EdgeTimeTest::parties, x -> x.owed(-1, 0), x -> x.owed(3, 0), x -> x.owed(0, -1),
                x -> x.owed(0, 3), x -> x.owed(3, 3), x -> x.owed(-1, 1), x -> x.owed(1, -3), x -> x.owed(2, 4)));
    }

    public static void main(String[] args) {
        whatItIs();
        pass();
        denied();
        points();
        owed();
        DOC.close();
    }
}
