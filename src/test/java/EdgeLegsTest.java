import java.util.List;

/** Promises 11 to 17, sentence by sentence: a test of its own at the edges of each. */
public final class EdgeLegsTest {
    private static final Check CHECK = new Check("EdgeLegsTest");
    private static final Edges EDGES = new Edges(CHECK);
    private static final Sentences DOC = new Sentences(CHECK, List.of("Promise 11: departure", "Promise 12: standing",
        "Promise 13: open", "Promise 14: load", "Promise 15: cancelLeg", "Promise 16: delay", "Promise 17: repair"));
    private static final String INDEX = Edges.INDEX;
    private static final String ARGUMENT = Edges.ARGUMENT;
    private static final String STATE = Edges.STATE;

    private static final int[] LEGS = {3, 5, 500, 1160};
    private static final int[] NO_LEGS = {Integer.MIN_VALUE, -1160, -100, -97, -3, -1, 0, 2, 4, 6, 60, 61, 99, 100, 103,
        499, 501, 1100, 1159, 1161, 1199, 1200, 1260, Integer.MAX_VALUE};

    /** Twelve flights, of which 0 goes on the days 3 and 5, 5 on the day 0, 11 on the day 60, and the others on none. */
    private static void twelveFlights(FareLattice x) {
        for (int i = 0; i < 12; i++) {
            x.flight(0, 0, 1, 12, 2, 5);
        }
        x.days(0, 3, 5, 0b0101000);
        x.days(5, 0, 0, 1);
        x.days(11, 60, 60, 127);
    }

    /** A call with any leg that is there is taken. */
    private static void aLeg(Edges.With call) {
        EDGES.takes(EdgeLegsTest::twelveFlights, call, LEGS);
    }

    /** A call with a leg that is not there is refused, also on a new object. */
    private static void noLeg(Edges.With call) {
        EDGES.refuses(INDEX, EdgeLegsTest::twelveFlights, call, NO_LEGS);
        EDGES.refuses(INDEX, Edges.NEW, call, 0, -1, 100);
    }

    /** A flight 0 from 0 to 1 at 12 with 5 seats, on the days 0 to 20, and a fare 0 of 100 for it. */
    private static void oneFlight(FareLattice x) {
        Networks.daily(x, 0, 1, 12, 2, 5);
        x.fare(0, 0, 1, 0, 100);
    }

    // ---- promise 11

    private static void departure() {
        DOC.in("Promise 11: departure");
        DOC.asks("Returns when a leg departs.", EdgeLegsTest::firstAndLastHours);
        DOC.asks("- `leg`: a leg", () -> aLeg((x, leg) -> x.departure(leg)));
        DOC.asks("Returns the hour.", EdgeLegsTest::hourOfDeparture);
        DOC.asks("Throws `IndexOutOfBoundsException` if there is no such leg", () -> noLeg((x, leg) -> x.departure(leg)));
    }

    private static void firstAndLastHours() {
        FareLattice x = new FareLattice();
        x.setZone(0, 14);
        x.setZone(1, -12);
        Networks.once(x, 0, 1, 0, 1, 1, 0);
        Networks.once(x, 1, 0, 23, 1, 1, 60);
        CHECK.same("the first that there can be", -14, x.departure(0));
        CHECK.same("the last without a delay", 60 * 24 + 23 + 12, x.departure(160));
        x.delay(160, 8);
        CHECK.same("the last with a delay", 60 * 24 + 23 + 12 + 8, x.departure(160));
    }

    private static void hourOfDeparture() {
        FareLattice x = Edges.after(EdgeLegsTest::oneFlight);
        CHECK.same("as it goes", 36, x.departure(1));
        x.delay(1, 8);
        CHECK.same("with its delay", 44, x.departure(1));
        x.delay(1, 1);
        CHECK.same("cancelled, as it was", 44, x.departure(1));
        x.pass(100);
        CHECK.same("when it is over, too", 60, x.departure(2));
    }

    // ---- promise 12

    private static void standing() {
        DOC.in("Promise 12: standing");
        DOC.asks("Returns how a leg stands.", EdgeLegsTest::standingByHours);
        DOC.asks("- `leg`: a leg", () -> aLeg((x, leg) -> x.standing(leg)));
        DOC.asks("Returns 10 * its delay + 0, 1 if it has departed, 2 if it is cancelled.", EdgeLegsTest::standings);
        DOC.asks("Throws `IndexOutOfBoundsException` if there is no such leg", () -> noLeg((x, leg) -> x.standing(leg)));
    }

    private static void standingByHours() {
        FareLattice x = Edges.after(EdgeLegsTest::oneFlight);
        x.pass(35);
        CHECK.same("an hour ahead", 0, x.standing(1));
        x.pass(1);
        CHECK.same("at its hour", 1, x.standing(1));
        CHECK.same("the next day's is ahead", 0, x.standing(2));
        x.pass(23);
        CHECK.same("an hour ahead of the next day's", 0, x.standing(2));
        x.pass(1);
        CHECK.same("at the next day's hour", 1, x.standing(2));
        CHECK.same("it stays so", 1, x.standing(1));
    }

    private static void standings() {
        FareLattice x = Edges.after(EdgeLegsTest::oneFlight);
        x.delay(1, 1);
        CHECK.same("the least delay", 10, x.standing(1));
        x.delay(1, 7);
        CHECK.same("the most", 80, x.standing(1));
        x.cancelLeg(2);
        CHECK.same("cancelled without a delay", 2, x.standing(2));
        x.delay(3, 8);
        x.cancelLeg(3);
        CHECK.same("cancelled with the most", 82, x.standing(3));
        x.delay(4, 5);
        x.delay(4, 4);
        CHECK.same("cancelled by a delay", 52, x.standing(4));
        Networks.passTo(x, 0, 43);
        CHECK.same("an hour ahead of its delayed hour", 80, x.standing(1));
        x.pass(1);
        CHECK.same("departed with the most", 81, x.standing(1));
        Networks.passTo(x, 44, 244);
        CHECK.same("a cancelled one never departs", 2, x.standing(2));
        CHECK.same("nor one with a delay", 82, x.standing(3));
        CHECK.same("nor one that a delay has cancelled", 52, x.standing(4));
    }

    // ---- promise 13

    private static void open() {
        DOC.in("Promise 13: open");
        DOC.asks("Returns how many seats of a leg are open in a bucket.", EdgeLegsTest::openInEachBucket);
        DOC.asks("- `leg`: a leg", () -> aLeg((x, leg) -> x.open(leg, 0)));
        DOC.asks("- `bucket`: 0 to 3", () ->
            EDGES.range(0, 3, INDEX, EdgeLegsTest::twelveFlights, (x, bucket) -> x.open(1160, bucket)));
        DOC.asks("Returns how many.", EdgeLegsTest::noneAndAllOpen);
        DOC.asks("Throws `IndexOutOfBoundsException` if there is no such leg or bucket", () -> {
            noLeg((x, leg) -> x.open(leg, 0));
            noLeg((x, leg) -> x.open(leg, 4));
            EDGES.refuses(INDEX, EdgeLegsTest::twelveFlights, (x, bucket) -> x.open(3, bucket), -1, 4);
        });
    }

    private static void openInEachBucket() {
        FareLattice x = Edges.after(EdgeLegsTest::oneFlight);
        int[] limits = {15, 3, 4, 0};
        int[] open = {15, 3, 3, 0};
        for (int bucket = 0; bucket < 4; bucket++) {
            x.limit(0, bucket, limits[bucket]);
        }
        for (int bucket = 0; bucket < 4; bucket++) {
            CHECK.same("in the bucket " + bucket, open[bucket], x.open(1, bucket));
        }
    }

    private static void noneAndAllOpen() {
        FareLattice x = Edges.after(EdgeLegsTest::oneFlight);
        CHECK.same("all", 5, x.open(1, 0));
        Networks.held(x, 4, -1, 1);
        CHECK.same("the last one", 1, x.open(1, 0));
        Networks.held(x, 1, -1, 1);
        CHECK.same("none", 0, x.open(1, 0));
        x.limit(0, 0, 4);
        CHECK.same("not below none", 0, x.open(1, 0));
        x.limit(0, 0, 15);
        CHECK.same("more than there are seats", 10, x.open(1, 0));
    }

    // ---- promise 14

    private static void load() {
        DOC.in("Promise 14: load");
        DOC.asks("Returns how full a leg is.", EdgeLegsTest::loadFromEmptyToOverfull);
        DOC.asks("- `leg`: a leg", () -> aLeg((x, leg) -> x.load(leg)));
        DOC.asks("Returns the seats that are sold, as a float, divided by the seats, as a float.", EdgeLegsTest::loadsAsFloats);
        DOC.asks("Throws `IndexOutOfBoundsException` if there is no such leg", () -> noLeg((x, leg) -> x.load(leg)));
    }

    private static void sameLoad(String what, float want, FareLattice x, int leg) {
        CHECK.same(what, (Object) want, (Object) x.load(leg));
    }

    private static void loadFromEmptyToOverfull() {
        FareLattice x = Edges.after(EdgeLegsTest::oneFlight);
        Networks.limits(x, 0, 15);
        sameLoad("empty", 0.0f, x, 1);
        Networks.held(x, 5, -1, 1);
        sameLoad("full", 1.0f, x, 1);
        Networks.held(x, 9, -1, 1);
        Networks.held(x, 1, -1, 1);
        sameLoad("with 15 for 5 seats", 3.0f, x, 1);
        sameLoad("another day has its own", 0.0f, x, 2);
    }

    private static void loadsAsFloats() {
        for (int seats = 1; seats <= 60; seats++) {
            FareLattice x = new FareLattice();
            Networks.daily(x, 0, 1, 12, 2, seats);
            x.fare(0, 0, 1, 0, 100);
            Networks.held(x, 1, -1, 1);
            sameLoad("1 of " + seats, 1.0f / seats, x, 1);
        }
        FareLattice x = new FareLattice();
        Networks.daily(x, 0, 1, 12, 2, 60);
        Networks.limits(x, 0, 70);
        x.fare(0, 0, 1, 0, 100);
        for (int i = 0; i < 7; i++) {
            Networks.held(x, 9, -1, 1);
        }
        Networks.held(x, 7, -1, 1);
        sameLoad("70 of 60", 70.0f / 60.0f, x, 1);
    }

    // ---- promise 15

    private static void cancelLeg() {
        DOC.in("Promise 15: cancelLeg");
        DOC.asks("Cancels a leg.", EdgeLegsTest::legCancelled);
        DOC.asks("- `leg`: a leg", () -> aLeg((x, leg) -> x.cancelLeg(leg)));
        DOC.asks("Returns how many persons have coupons for it, OPEN or CHECKED, of what is TICKETED.",
            EdgeLegsTest::personsOfCancelled);
        DOC.asks("Throws `IndexOutOfBoundsException` if there is no such leg", () -> noLeg((x, leg) -> x.cancelLeg(leg)));
        DOC.asks("Throws `IllegalStateException` if it has departed or is cancelled", () ->
            EDGES.refuses(STATE, EdgeLegsTest::threeThatAreOver, (x, leg) -> x.cancelLeg(leg), 0, 1, 2, 3));
    }

    /** Ticketed and held ones on the legs of one flight; 0 and 1 have departed, 2 was cancelled, 3 by a delay. */
    private static void threeThatAreOver(FareLattice x) {
        oneFlight(x);
        for (int leg = 1; leg <= 4; leg++) {
            Networks.ticketed(x, 1, 0, leg);
            Networks.held(x, 1, -1, leg);
        }
        x.pass(35);
        x.check(0, 0);
        x.pass(1);
        x.cancelLeg(2);
        x.delay(3, 8);
        x.delay(3, 1);
    }

    private static void legCancelled() {
        FareLattice x = Edges.after(EdgeLegsTest::oneFlight);
        x.pass(35);
        CHECK.same("an hour ahead of its departure", 0, x.cancelLeg(1));
        CHECK.same("it is cancelled", 2, x.standing(1));
        CHECK.same("no seat is open", 0, x.open(1, 0));
        CHECK.same("the next one is not", 0, x.standing(2));
        x.pass(1);
        CHECK.same("it does not depart", 2, x.standing(1));
    }

    private static void personsOfCancelled() {
        FareLattice x = Edges.after(EdgeLegsTest::oneFlight);
        Networks.daily(x, 1, 2, 15, 2, 60);
        x.fare(0, 1, 2, 0, 100);
        x.fare(0, 0, 2, 0, 100);
        CHECK.same("nobody", 0, x.cancelLeg(105));
        int leg = 102;
        int checked = Networks.ticketed(x, 9, -1, leg);
        Networks.ticketed(x, 4, -1, leg);
        int ended = Networks.ticketed(x, 8, -1, leg);
        int lost = Networks.ticketed(x, 5, -1, 2, leg);
        Networks.held(x, 7, -1, leg);
        x.part(checked, 3);
        x.cancel(ended);
        x.delay(2, 1);
        x.delay(103, 1);
        x.cancelLeg(103);
        x.cancelLeg(104);
        CHECK.same("a coupon that is void", 1, x.repair());
        CHECK.same("it is for the leg", 100 * leg + 5, x.coupon(lost, 1));
        x.pass(50);
        x.check(checked, 0);
        CHECK.same("6 CHECKED, 3 parted and 4 OPEN", 13, x.cancelLeg(leg));
    }

    // ---- promise 16

    private static void delay() {
        DOC.in("Promise 16: delay");
        DOC.asks("Delays a leg, and what is linked.", EdgeLegsTest::delayOfLinked);
        DOC.asks("- `leg`: a leg", () -> aLeg((x, leg) -> x.delay(leg, 1)));
        DOC.asks("- `hours`: 1 to 8: how much more", EdgeLegsTest::hoursOfDelay);
        DOC.asks("Returns how many legs are delayed or cancelled by that, itself included, each once.",
            EdgeLegsTest::countOfDelayed);
        DOC.asks("Throws `IndexOutOfBoundsException` if there is no such leg", () -> {
            noLeg((x, leg) -> x.delay(leg, 1));
            noLeg((x, leg) -> x.delay(leg, 0));
            noLeg((x, leg) -> x.delay(leg, 9));
        });
        DOC.asks("Throws `IllegalArgumentException` if hours is out of range", () -> {
            EDGES.refuses(ARGUMENT, EdgeLegsTest::threeThatAreOver, (x, hours) -> x.delay(4, hours), 0, 9, -1);
            EDGES.refuses(ARGUMENT, EdgeLegsTest::threeThatAreOver, (x, leg) -> x.delay(leg, 9), 0, 1, 2, 3);
        });
        DOC.asks("Throws `IllegalStateException` if it has departed or is cancelled", () -> {
            EDGES.refuses(STATE, EdgeLegsTest::threeThatAreOver, (x, leg) -> x.delay(leg, 1), 0, 1, 2, 3);
            EDGES.taken(x -> {
                oneFlight(x);
                x.pass(35);
            }, x -> x.delay(1, 1));
        });
    }

    private static void delayOfLinked() {
        FareLattice x = new FareLattice();
        Networks.daily(x, 0, 1, 8, 2, 5);
        Networks.daily(x, 1, 0, 12, 2, 5);
        x.link(0, 1, false);
        CHECK.same("1 hour behind the arrival is enough", 1, x.delay(1, 1));
        CHECK.same("so it is not delayed", 0, x.standing(101));
        CHECK.same("less is not", 2, x.delay(1, 1));
        CHECK.same("so it is delayed until 1 hour behind", 37, x.departure(101));
        CHECK.same("the arrival of the first one", 34 + 2, x.departure(1) + 2);
        CHECK.same("who is linked to none takes none along", 1, x.delay(101, 4));
        CHECK.same("the one ahead is as it was", 20, x.standing(1));
    }

    private static void hoursOfDelay() {
        EDGES.range(1, 8, ARGUMENT, EdgeLegsTest::oneFlight, (x, hours) -> x.delay(1, hours));
        for (int hours = 1; hours <= 8; hours++) {
            FareLattice x = Edges.after(EdgeLegsTest::oneFlight);
            x.delay(1, hours);
            CHECK.same(hours + " hours", 10 * hours, x.standing(1));
            x.delay(1, 8 - hours + (hours == 8 ? 1 : 0));
            CHECK.same("more, up to 8, is a delay; above it is none", hours == 8 ? 82 : 80, x.standing(1));
        }
    }

    private static void countOfDelayed() {
        FareLattice x = new FareLattice();
        for (int i = 0; i < 12; i++) {
            Networks.daily(x, i % 2, 1 - i % 2, 2 * i, 1, 5);
            if (i > 0) {
                x.link(i - 1, i, false);
            }
        }
        CHECK.same("the leg and six more at most", 7, x.delay(1, 8));
        CHECK.same("the last one alone", 1, x.delay(1101, 1));
        CHECK.same("itself cancelled", 1, x.delay(1, 1));
        x.delay(302, 8);
        CHECK.same("two are delayed, then those behind are late enough", 3, x.delay(2, 4));
        x.cancelLeg(103);
        CHECK.same("not beyond what is cancelled", 1, x.delay(3, 4));
        FareLattice y = new FareLattice();
        Networks.daily(y, 0, 1, 8, 1, 5);
        Networks.daily(y, 1, 0, 10, 1, 5);
        y.link(0, 1, false);
        y.link(1, 0, false);
        CHECK.same("each once", 2, y.delay(1, 1));
    }

    // ---- promise 17

    private static void repair() {
        DOC.in("Promise 17: repair");
        DOC.asks("Repairs all journeys.", EdgeLegsTest::repairOfAll);
        DOC.asks("Returns 100 * the coupons that became MOVED + those that became VOID.", EdgeLegsTest::countOfRepaired);
    }

    private static void repairOfAll() {
        FareLattice x = Edges.after(EdgeLegsTest::oneFlight);
        CHECK.same("nobody", 0, x.repair());
        Networks.limits(x, 0, 15);
        int ticketed = Networks.ticketed(x, 1, -1, 1);
        int held = Networks.held(x, 1, -1, 2);
        int ended = Networks.ticketed(x, 1, -1, 1);
        x.cancel(ended);
        CHECK.same("nothing to do", 0, x.repair());
        x.cancelLeg(1);
        x.cancelLeg(2);
        CHECK.same("what is TICKETED alone", 100, x.repair());
        CHECK.same("to the day before, which arrives first", 0, x.coupon(ticketed, 1));
        CHECK.same("what was held is cancelled", 3011, x.booking(held));
        CHECK.same("and what was cancelled is as it was", 105, x.coupon(ended, 0));
        CHECK.same("nothing is left to do", 0, x.repair());
    }

    private static void countOfRepaired() {
        FareLattice x = new FareLattice();
        Networks.once(x, 0, 1, 12, 2, 60, 1);
        Networks.once(x, 0, 1, 15, 2, 2, 1);
        x.fare(0, 0, 1, 0, 100);
        for (int i = 0; i < 5; i++) {
            Networks.ticketed(x, 1, -1, 1);
        }
        x.cancelLeg(1);
        CHECK.same("two MOVED, three VOID", 203, x.repair());
        FareLattice y = new FareLattice();
        Networks.once(y, 0, 1, 12, 2, 60, 1);
        Networks.once(y, 0, 1, 15, 2, 60, 1);
        y.fare(0, 0, 1, 0, 100);
        for (int i = 0; i < 40; i++) {
            Networks.ticketed(y, 1, -1, 1);
        }
        y.cancelLeg(1);
        CHECK.same("all 40 MOVED", 4000, y.repair());
        y.cancelLeg(101);
        CHECK.same("all 40 VOID", 40, y.repair());
    }

    public static void main(String[] args) {
        departure();
        standing();
        open();
        load();
        cancelLeg();
        delay();
        repair();
        DOC.close();
    }
}
