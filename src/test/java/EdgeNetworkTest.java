import java.util.List;

/** Promises 1 to 10, sentence by sentence: a test of its own at the edges of each. */
public final class EdgeNetworkTest {
    private static final Check CHECK = new Check("EdgeNetworkTest");
    private static final Edges EDGES = new Edges(CHECK);
    private static final Sentences DOC = new Sentences(CHECK, List.of("Promise 1: A new object", "Promise 2: setZone",
        "Promise 3: setTax", "Promise 4: flight", "Promise 5: days", "Promise 6: limit", "Promise 7: link",
        "Promise 8: fare", "Promise 9: rules", "Promise 10: back"));
    private static final String INDEX = Edges.INDEX;
    private static final String ARGUMENT = Edges.ARGUMENT;
    private static final String STATE = Edges.STATE;

    /** A flight 0 from 0 to 1 at 12 with 5 seats, on the days 0 to 20, and a fare 0 of 100 for it. */
    private static void oneFlight(FareLattice x) {
        Networks.daily(x, 0, 1, 12, 2, 5);
        x.fare(0, 0, 1, 0, 100);
    }

    /** Two flights, as above, both on no day, and two fares. */
    private static void twoOfEach(FareLattice x) {
        for (int i = 0; i < 2; i++) {
            x.flight(0, 0, 1, 12, 2, 5);
            x.fare(0, 0, 1, 0, 100);
        }
    }

    // ---- promise 1

    private static void newObject() {
        DOC.in("Promise 1: A new object");
        DOC.asks("Creates a network without flights and fares, at the hour 0.", EdgeNetworkTest::emptyAtTheHourZero);
    }

    private static void emptyAtTheHourZero() {
        EDGES.refused(INDEX, Edges.NEW, x -> x.limit(0, 0, 0), x -> x.days(0, 0, 0, 1), x -> x.link(0, -1, false),
            x -> x.back(0, 0), x -> x.departure(0), x -> x.leg(0), x -> x.booking(0), x -> x.wished(0));
        FareLattice x = new FareLattice();
        CHECK.same("no leg is drafted", 0, x.dropLegs());
        CHECK.same("nobody was denied", 0, x.denied());
        CHECK.same("the first flight", 0, x.flight(0, 0, 1, 1, 1, 1));
        CHECK.same("the first fare", 0, x.fare(0, 0, 1, 0, 1));
        x.days(0, 0, 0, 1);
        CHECK.same("the hour 1 is to come", 0, x.standing(0));
        CHECK.same("the hour 0 was there", 1, x.pass(1));
        CHECK.same("the hour 1 has come", 1, x.standing(0));
    }

    // ---- promise 2

    private static void setZone() {
        DOC.in("Promise 2: setZone");
        DOC.asks("Sets the zone of an airport.", EdgeNetworkTest::zoneSet);
        DOC.asks("- `airport`: 0 to 5", () -> EDGES.range(0, 5, INDEX, Edges.NEW, (x, v) -> x.setZone(v, 3)));
        DOC.asks("- `zone`: -12 to 14", () -> EDGES.range(-12, 14, ARGUMENT, Edges.NEW, (x, v) -> x.setZone(2, v)));
        DOC.asks("Returns the zone before.", EdgeNetworkTest::zoneBefore);
        DOC.asks("Throws `IndexOutOfBoundsException` if there is no such airport", EdgeNetworkTest::zoneOfNoAirport);
        DOC.asks("Throws `IllegalArgumentException` if zone is out of range", () ->
            EDGES.refused(ARGUMENT, EdgeNetworkTest::oneFlight, x -> x.setZone(0, -13), x -> x.setZone(5, 15)));
        DOC.asks("Throws `IllegalStateException` if there is a flight", EdgeNetworkTest::zoneWithFlights);
    }

    private static void zoneSet() {
        int[] zones = {-12, 14};
        for (int zone : zones) {
            FareLattice x = new FareLattice();
            x.setZone(0, 1);
            x.setZone(0, zone);
            Networks.daily(x, 0, 1, 3, 2, 5);
            Networks.daily(x, 1, 0, 3, 2, 5);
            CHECK.same("the last zone " + zone, 48 + 3 - zone, x.departure(2));
            CHECK.same("not that of the other airport", 48 + 3, x.departure(102));
        }
    }

    private static void zoneBefore() {
        FareLattice x = new FareLattice();
        for (int airport = 0; airport < 6; airport++) {
            CHECK.same("0 at first at " + airport, 0, x.setZone(airport, airport - 12));
        }
        for (int airport = 0; airport < 6; airport++) {
            CHECK.same("its own at " + airport, airport - 12, x.setZone(airport, 14));
            CHECK.same("the greatest at " + airport, 14, x.setZone(airport, 14));
        }
    }

    private static void zoneOfNoAirport() {
        EDGES.refused(INDEX, Edges.NEW, x -> x.setZone(-1, 0), x -> x.setZone(6, 0), x -> x.setZone(6, 15));
        EDGES.refused(INDEX, EdgeNetworkTest::oneFlight, x -> x.setZone(6, 0), x -> x.setZone(-1, -13));
    }

    private static void zoneWithFlights() {
        EDGES.taken(x -> x.fare(0, 0, 1, 0, 1), x -> x.setZone(0, 1));
        EDGES.refused(STATE, x -> x.flight(0, 0, 1, 12, 2, 5), x -> x.setZone(0, 1), x -> x.setZone(0, 0),
            x -> x.setZone(5, 1));
    }

    // ---- promise 3

    private static void setTax() {
        DOC.in("Promise 3: setTax");
        DOC.asks("Sets the tax of an airport.", EdgeNetworkTest::taxSet);
        DOC.asks("- `airport`: 0 to 5", () -> EDGES.range(0, 5, INDEX, Edges.NEW, (x, v) -> x.setTax(v, 3)));
        DOC.asks("- `tax`: 0 to 500", () -> EDGES.range(0, 500, ARGUMENT, Edges.NEW, (x, v) -> x.setTax(2, v)));
        DOC.asks("Returns the tax before.", EdgeNetworkTest::taxBefore);
        DOC.asks("Throws `IndexOutOfBoundsException` if there is no such airport", () ->
            EDGES.refused(INDEX, EdgeNetworkTest::oneFlight, x -> x.setTax(-1, 0), x -> x.setTax(6, 0),
                x -> x.setTax(-1, -1), x -> x.setTax(6, 501)));
        DOC.asks("Throws `IllegalArgumentException` if tax is out of range", () ->
            EDGES.refused(ARGUMENT, EdgeNetworkTest::oneFlight, x -> x.setTax(0, -1), x -> x.setTax(5, 501)));
    }

    private static void taxSet() {
        FareLattice x = Edges.after(EdgeNetworkTest::oneFlight);
        x.leg(1);
        CHECK.same("none at first", 0, x.taxes());
        x.setTax(0, 500);
        x.setTax(1, 3);
        CHECK.same("the most, with a flight there", 500, x.taxes());
        x.setTax(0, 0);
        CHECK.same("the least", 0, x.taxes());
    }

    private static void taxBefore() {
        FareLattice x = new FareLattice();
        for (int airport = 0; airport < 6; airport++) {
            CHECK.same("0 at first at " + airport, 0, x.setTax(airport, 495 + airport));
        }
        for (int airport = 0; airport < 6; airport++) {
            CHECK.same("its own at " + airport, 495 + airport, x.setTax(airport, 0));
            CHECK.same("the least at " + airport, 0, x.setTax(airport, 0));
        }
    }

    // ---- promise 4

    private static void flight() {
        DOC.in("Promise 4: flight");
        DOC.asks("Adds a flight, which goes on no day yet.", EdgeNetworkTest::flightOnNoDay);
        DOC.asks("- `carrier`: 0 to 2", () -> EDGES.range(0, 2, INDEX, Edges.NEW, (x, v) -> x.flight(v, 0, 1, 0, 1, 1)));
        DOC.asks("- `from`: 0 to 5", () -> EDGES.range(0, 5, INDEX, Edges.NEW, (x, v) -> x.flight(0, v, 2, 0, 1, 1)));
        DOC.asks("- `to`: 0 to 5", () -> EDGES.range(0, 5, INDEX, Edges.NEW, (x, v) -> x.flight(0, 2, v, 0, 1, 1)));
        DOC.asks("- `hour`: 0 to 23, the local hour of departure", EdgeNetworkTest::hourOfFlight);
        DOC.asks("- `length`: 1 to 20 hours", EdgeNetworkTest::lengthOfFlight);
        DOC.asks("- `seats`: 1 to 60", EdgeNetworkTest::seatsOfFlight);
        DOC.asks("Returns its number.", EdgeNetworkTest::numbersOfFlights);
        DOC.asks("Throws `IndexOutOfBoundsException` if there is no such carrier or airport",
            EdgeNetworkTest::flightOfNoCarrierOrAirport);
        DOC.asks("Throws `IllegalArgumentException` if from and to are the same, or hour, length or seats is out of range",
            EdgeNetworkTest::flightOutOfRange);
        DOC.asks("Throws `IllegalStateException` if there are 12", () ->
            EDGES.refused(STATE, x -> flights(x, 12), x -> x.flight(0, 0, 1, 0, 1, 1), x -> x.flight(2, 5, 0, 23, 20, 60)));
    }

    private static void flights(FareLattice x, int count) {
        for (int i = 0; i < count; i++) {
            x.flight(0, 0, 1, 0, 1, 1);
        }
    }

    private static void flightOnNoDay() {
        FareLattice x = new FareLattice();
        x.flight(0, 0, 1, 0, 1, 1);
        for (int day = 0; day <= 60; day++) {
            int leg = day;
            CHECK.index("no leg on the day " + day, () -> x.departure(leg));
        }
        CHECK.same("its days can be set", 61, x.days(0, 0, 60, 127));
    }

    private static void hourOfFlight() {
        EDGES.range(0, 23, ARGUMENT, Edges.NEW, (x, v) -> x.flight(0, 0, 1, v, 1, 1));
        FareLattice x = new FareLattice();
        x.setZone(0, 14);
        x.setZone(1, -12);
        Networks.daily(x, 0, 1, 23, 1, 1);
        CHECK.same("local where it departs", 24 + 23 - 14, x.departure(1));
    }

    private static void lengthOfFlight() {
        EDGES.range(1, 20, ARGUMENT, Edges.NEW, (x, v) -> x.flight(0, 0, 1, 0, v, 1));
        int[] lengths = {1, 20};
        for (int length : lengths) {
            FareLattice x = new FareLattice();
            Networks.daily(x, 0, 1, 0, length, 1);
            Networks.daily(x, 1, 0, length, 1, 1);
            Networks.daily(x, 1, 0, length + 1, 1, 1);
            x.leg(1);
            CHECK.state("it is underway for " + length, () -> x.leg(101));
            CHECK.same("1 hour behind " + length, 2, x.leg(201));
        }
    }

    private static void seatsOfFlight() {
        EDGES.range(1, 60, ARGUMENT, Edges.NEW, (x, v) -> x.flight(0, 0, 1, 0, 1, v));
        int[] seats = {1, 60};
        for (int count : seats) {
            FareLattice x = new FareLattice();
            Networks.daily(x, 0, 1, 0, 1, count);
            CHECK.same("open at first", count, x.open(1, 3));
        }
    }

    private static void numbersOfFlights() {
        FareLattice x = new FareLattice();
        for (int i = 0; i < 12; i++) {
            CHECK.same("one behind the other", i, x.flight(i % 3, i % 6, (i + 1) % 6, i, 1, 1));
        }
    }

    private static void flightOfNoCarrierOrAirport() {
        EDGES.refused(INDEX, Edges.NEW, x -> x.flight(-1, 0, 1, 0, 1, 1), x -> x.flight(3, 0, 1, 0, 1, 1),
            x -> x.flight(0, -1, 1, 0, 1, 1), x -> x.flight(0, 6, 1, 0, 1, 1), x -> x.flight(0, 0, -1, 0, 1, 1),
            x -> x.flight(0, 0, 6, 0, 1, 1));
        EDGES.refused(INDEX, Edges.NEW, x -> x.flight(0, 6, 6, 0, 1, 1), x -> x.flight(3, 0, 0, 0, 1, 1),
            x -> x.flight(3, 0, 1, 24, 1, 1), x -> x.flight(0, -1, 1, 0, 0, 1), x -> x.flight(0, 0, 6, 0, 1, 61));
        EDGES.refused(INDEX, x -> flights(x, 12), x -> x.flight(3, 0, 1, 0, 1, 1), x -> x.flight(0, 6, 1, 0, 1, 1),
            x -> x.flight(0, 0, -1, 0, 21, 1));
    }

    private static void flightOutOfRange() {
        EDGES.refused(ARGUMENT, Edges.NEW, x -> x.flight(0, 0, 0, 0, 1, 1), x -> x.flight(0, 5, 5, 0, 1, 1),
            x -> x.flight(0, 0, 1, -1, 1, 1), x -> x.flight(0, 0, 1, 24, 1, 1), x -> x.flight(0, 0, 1, 0, 0, 1),
            x -> x.flight(0, 0, 1, 0, 21, 1), x -> x.flight(0, 0, 1, 0, 1, 0), x -> x.flight(0, 0, 1, 0, 1, 61));
        EDGES.refused(ARGUMENT, x -> flights(x, 12), x -> x.flight(0, 0, 0, 0, 1, 1), x -> x.flight(0, 0, 1, 24, 1, 1),
            x -> x.flight(0, 0, 1, 0, 0, 1), x -> x.flight(0, 0, 1, 0, 1, 61));
    }

    // ---- promise 5

    private static void days() {
        DOC.in("Promise 5: days");
        DOC.asks("Sets the days on which a flight goes, once.", EdgeNetworkTest::daysOnce);
        DOC.asks("- `flight`: a flight", () ->
            EDGES.range(0, 1, INDEX, EdgeNetworkTest::twoOfEach, (x, v) -> x.days(v, 0, 60, 127)));
        DOC.asks("- `first`: 0 to 60", EdgeNetworkTest::firstDay);
        DOC.asks("- `last`: first to 60", EdgeNetworkTest::lastDay);
        DOC.asks("- `set`: 1 to 127: bit r for days whose remainder by 7 is r", EdgeNetworkTest::setOfDays);
        DOC.asks("Returns on how many days it goes.", EdgeNetworkTest::countOfDays);
        DOC.asks("Throws `IndexOutOfBoundsException` if there is no such flight", EdgeNetworkTest::daysOfNoFlight);
        DOC.asks("Throws `IllegalArgumentException` if first, last or set is out of range", EdgeNetworkTest::daysOutOfRange);
        DOC.asks("Throws `IllegalStateException` if they were set", EdgeNetworkTest::daysThatWereSet);
    }

    private static void daysOnce() {
        FareLattice x = Edges.after(EdgeNetworkTest::twoOfEach);
        x.days(0, 3, 4, 127);
        CHECK.state("once alone", () -> x.days(0, 3, 4, 127));
        CHECK.same("once for each flight", 2, x.days(1, 5, 6, 127));
        CHECK.index("the days of the other one are not its own", () -> x.departure(5));
    }

    private static void firstDay() {
        EDGES.range(0, 60, ARGUMENT, EdgeNetworkTest::twoOfEach, (x, v) -> x.days(0, v, 60, 127));
        FareLattice x = Edges.after(EdgeNetworkTest::twoOfEach);
        x.days(0, 9, 60, 127);
        CHECK.same("on the first day", 9 * 24 + 12, x.departure(9));
        CHECK.index("not ahead of it", () -> x.departure(8));
    }

    private static void lastDay() {
        EDGES.range(9, 60, ARGUMENT, EdgeNetworkTest::twoOfEach, (x, v) -> x.days(0, 9, v, 127));
        EDGES.range(0, 60, ARGUMENT, EdgeNetworkTest::twoOfEach, (x, v) -> x.days(0, 0, v, 127));
        EDGES.range(60, 60, ARGUMENT, EdgeNetworkTest::twoOfEach, (x, v) -> x.days(0, 60, v, 127));
        FareLattice x = Edges.after(EdgeNetworkTest::twoOfEach);
        x.days(0, 0, 9, 127);
        CHECK.same("on the last day", 9 * 24 + 12, x.departure(9));
        CHECK.index("not behind it", () -> x.departure(10));
    }

    private static void setOfDays() {
        EDGES.range(1, 127, ARGUMENT, EdgeNetworkTest::twoOfEach, (x, v) -> x.days(0, 0, 60, v));
        for (int r = 0; r < 7; r++) {
            FareLattice x = Edges.after(EdgeNetworkTest::twoOfEach);
            x.days(0, 0, 60, 1 << r);
            x.days(1, 0, 60, 127 - (1 << r));
            for (int day = 0; day <= 60; day++) {
                int leg = day % 7 == r ? day : 100 + day;
                int other = day % 7 == r ? 100 + day : day;
                CHECK.same("bit " + r + ", day " + day, 24 * day + 12, x.departure(leg));
                CHECK.index("not " + r + ", day " + day, () -> x.departure(other));
            }
        }
    }

    private static void countOfDays() {
        int[] counts = {9, 9, 9, 9, 9, 8, 8};
        for (int r = 0; r < 7; r++) {
            int set = 1 << r;
            CHECK.same("of remainder " + r, counts[r], Edges.after(EdgeNetworkTest::twoOfEach).days(0, 0, 60, set));
        }
        CHECK.same("all", 61, Edges.after(EdgeNetworkTest::twoOfEach).days(0, 0, 60, 127));
        CHECK.same("one", 1, Edges.after(EdgeNetworkTest::twoOfEach).days(0, 60, 60, 127));
        CHECK.same("none", 0, Edges.after(EdgeNetworkTest::twoOfEach).days(0, 1, 6, 1));
        CHECK.same("a week has each once", 1, Edges.after(EdgeNetworkTest::twoOfEach).days(0, 1, 7, 1));
    }

    private static void daysOfNoFlight() {
        EDGES.refused(INDEX, EdgeNetworkTest::twoOfEach, x -> x.days(-1, 0, 60, 127), x -> x.days(2, 0, 60, 127),
            x -> x.days(2, -1, 60, 127), x -> x.days(-1, 0, 61, 127), x -> x.days(2, 0, 60, 0));
        EDGES.refused(INDEX, Edges.NEW, x -> x.days(0, 0, 60, 127));
    }

    private static void daysOutOfRange() {
        EDGES.refused(ARGUMENT, EdgeNetworkTest::twoOfEach, x -> x.days(0, -1, 60, 127), x -> x.days(0, 61, 61, 127),
            x -> x.days(0, 0, 61, 127), x -> x.days(0, 5, 4, 127), x -> x.days(0, 0, -1, 127), x -> x.days(0, 0, 60, 0),
            x -> x.days(0, 0, 60, 128), x -> x.days(0, 0, 60, -1));
        EDGES.refused(ARGUMENT, EdgeNetworkTest::oneFlight, x -> x.days(0, -1, 60, 127), x -> x.days(0, 0, 61, 127),
            x -> x.days(0, 5, 4, 127), x -> x.days(0, 0, 60, 128));
    }

    private static void daysThatWereSet() {
        EDGES.refused(STATE, EdgeNetworkTest::oneFlight, x -> x.days(0, 0, 20, 127), x -> x.days(0, 21, 60, 127));
        EDGES.refused(STATE, x -> {
            twoOfEach(x);
            x.days(0, 1, 6, 1);
        }, x -> x.days(0, 0, 60, 127));
    }

    // ---- promise 6

    private static void limit() {
        DOC.in("Promise 6: limit");
        DOC.asks("Sets a limit.", EdgeNetworkTest::limitSet);
        DOC.asks("- `flight`: a flight", () ->
            EDGES.range(0, 1, INDEX, EdgeNetworkTest::twoOfEach, (x, v) -> x.limit(v, 0, 3)));
        DOC.asks("- `bucket`: 0 to 3", () -> EDGES.range(0, 3, INDEX, EdgeNetworkTest::twoOfEach, (x, v) -> x.limit(1, v, 3)));
        DOC.asks("- `limit`: 0 to its seats and 10, added", EdgeNetworkTest::leastAndMostLimit);
        DOC.asks("Returns the limit before.", EdgeNetworkTest::limitBefore);
        DOC.asks("Throws `IndexOutOfBoundsException` if there is no such flight or bucket", () ->
            EDGES.refused(INDEX, EdgeNetworkTest::oneFlight, x -> x.limit(-1, 0, 3), x -> x.limit(1, 0, 3),
                x -> x.limit(0, -1, 3), x -> x.limit(0, 4, 3), x -> x.limit(1, 0, -1), x -> x.limit(0, 4, 16)));
        DOC.asks("Throws `IllegalArgumentException` if limit is out of range", () ->
            EDGES.refused(ARGUMENT, EdgeNetworkTest::oneFlight, x -> x.limit(0, 0, -1), x -> x.limit(0, 3, 16)));
    }

    private static void limitSet() {
        FareLattice x = Edges.after(EdgeNetworkTest::oneFlight);
        int booking = Networks.ticketed(x, 3, -1, 1);
        x.limit(0, 0, 2);
        CHECK.same("below what is sold, none is open", 0, x.open(1, 0));
        CHECK.same("what is sold stays", 1013, x.booking(booking));
        CHECK.same("on each day", 2, x.open(2, 0));
        x.limit(0, 0, 15);
        CHECK.same("above the seats", 12, x.open(1, 0));
        x.limit(0, 0, 3);
        CHECK.same("all are sold", 0, x.open(1, 0));
    }

    private static void leastAndMostLimit() {
        EDGES.range(0, 15, ARGUMENT, EdgeNetworkTest::oneFlight, (x, v) -> x.limit(0, 0, v));
        EDGES.range(0, 11, ARGUMENT, x -> x.flight(0, 0, 1, 0, 1, 1), (x, v) -> x.limit(0, 3, v));
        EDGES.range(0, 70, ARGUMENT, x -> x.flight(0, 0, 1, 0, 1, 60), (x, v) -> x.limit(0, 1, v));
    }

    private static void limitBefore() {
        FareLattice x = Edges.after(EdgeNetworkTest::twoOfEach);
        for (int bucket = 0; bucket < 4; bucket++) {
            CHECK.same("the seats at first", 5, x.limit(0, bucket, bucket));
        }
        for (int bucket = 0; bucket < 4; bucket++) {
            CHECK.same("its own", bucket, x.limit(0, bucket, 15));
            CHECK.same("the greatest", 15, x.limit(0, bucket, 15));
            CHECK.same("another flight has its own", 5, x.limit(1, bucket, 5));
        }
    }

    // ---- promise 7

    /** Flights 0, 1 and 2 that could go on as one another: 0 to 1 at 8, 1 to 0 at 11 and 1 to 2 at 11. */
    private static void threeFlights(FareLattice x) {
        Networks.daily(x, 0, 1, 8, 2, 5);
        Networks.daily(x, 1, 0, 11, 2, 5);
        Networks.daily(x, 1, 2, 11, 2, 5);
    }

    private static void link() {
        DOC.in("Promise 7: link");
        DOC.asks("Links a flight to another one, in place of an earlier link.", EdgeNetworkTest::linkInPlace);
        DOC.asks("- `flight`: a flight", () ->
            EDGES.range(0, 2, INDEX, EdgeNetworkTest::threeFlights, (x, v) -> x.link(v, v == 1 ? 0 : -1, false)));
        DOC.asks("- `other`: a flight, or -1 for none", EdgeNetworkTest::linkToNone);
        DOC.asks("- `isNextDay`: whether it goes on the next day", EdgeNetworkTest::linkOfDays);
        DOC.asks("Returns the other flight before, -1 if there was none.", EdgeNetworkTest::linkBefore);
        DOC.asks("Throws `IndexOutOfBoundsException` if there is no such flight, of either", () ->
            EDGES.refused(INDEX, EdgeNetworkTest::threeFlights, x -> x.link(-1, 0, false), x -> x.link(3, 0, true),
                x -> x.link(3, -1, false), x -> x.link(0, -2, false), x -> x.link(0, 3, true), x -> x.link(3, 3, false)));
        DOC.asks("Throws `IllegalArgumentException` if the other one does not begin where the flight ends", () -> {
            EDGES.refused(ARGUMENT, EdgeNetworkTest::threeFlights, x -> x.link(0, 0, false), x -> x.link(1, 2, true),
                x -> x.link(2, 0, false), x -> x.link(2, 1, false));
            EDGES.taken(EdgeNetworkTest::threeFlights, x -> x.link(1, 0, false), x -> x.link(0, 2, false));
        });
    }

    private static void linkInPlace() {
        FareLattice x = Edges.after(EdgeNetworkTest::threeFlights);
        x.link(0, 1, false);
        x.link(0, 2, false);
        CHECK.same("one alone", 2, x.delay(1, 4));
        CHECK.same("not the earlier one", 0, x.standing(101));
        CHECK.same("but the later one", 40, x.standing(201));
    }

    private static void linkToNone() {
        EDGES.range(-1, 2, INDEX, EdgeNetworkTest::threeFlights, (x, v) -> x.link(0, v, false));
        FareLattice x = Edges.after(EdgeNetworkTest::threeFlights);
        x.link(0, 1, false);
        x.link(0, -1, false);
        CHECK.same("none goes along", 1, x.delay(1, 4));
    }

    private static void linkOfDays() {
        FareLattice x = Edges.after(EdgeNetworkTest::threeFlights);
        int late = Networks.daily(x, 0, 1, 20, 12, 5);
        x.link(late, 1, true);
        CHECK.same("the next day's", 2, x.delay(100 * late + 1, 3));
        CHECK.same("not the same day's", 0, x.standing(101));
        CHECK.same("delayed", 10, x.standing(102));
        x.link(late, 1, false);
        CHECK.same("now the same day's, which is far too early", 2, x.delay(100 * late + 3, 1));
        CHECK.same("so it is cancelled", 2, x.standing(103));
        CHECK.same("the next day's is not", 0, x.standing(104));
    }

    private static void linkBefore() {
        FareLattice x = Edges.after(EdgeNetworkTest::threeFlights);
        CHECK.same("none at first", -1, x.link(0, -1, false));
        CHECK.same("none was told", -1, x.link(0, 1, true));
        CHECK.same("the first one", 1, x.link(0, 2, false));
        CHECK.same("another one has its own", -1, x.link(1, 0, false));
        CHECK.same("the flight 0", 0, x.link(1, -1, false));
        CHECK.same("the second one", 2, x.link(0, -1, false));
        CHECK.same("none", -1, x.link(0, -1, false));
    }

    // ---- promise 8

    private static void fare() {
        DOC.in("Promise 8: fare");
        DOC.asks("Adds a fare.", EdgeNetworkTest::fareAdded);
        DOC.asks("- `carrier`: 0 to 2, or -1 for any", () ->
            EDGES.range(-1, 2, INDEX, Edges.NEW, (x, v) -> x.fare(v, 0, 1, 0, 1)));
        DOC.asks("- `from`: 0 to 5", () -> EDGES.range(0, 5, INDEX, Edges.NEW, (x, v) -> x.fare(0, v, 2, 0, 1)));
        DOC.asks("- `to`: 0 to 5, another one", () -> {
            EDGES.range(0, 5, INDEX, Edges.NEW, (x, v) -> x.fare(0, 2, v, 0, 1));
            EDGES.refused(ARGUMENT, Edges.NEW, x -> x.fare(0, 2, 2, 0, 1));
        });
        DOC.asks("- `bucket`: 0 to 3", () -> EDGES.range(0, 3, INDEX, Edges.NEW, (x, v) -> x.fare(0, 0, 1, v, 1)));
        DOC.asks("- `amount`: 1 to 5000", () -> EDGES.range(1, 5000, ARGUMENT, Edges.NEW, (x, v) -> x.fare(0, 0, 1, 0, v)));
        DOC.asks("Returns its number.", EdgeNetworkTest::numbersOfFares);
        DOC.asks("Throws `IndexOutOfBoundsException` if there is no such carrier, airport or bucket",
            EdgeNetworkTest::fareOfNoCarrierAirportOrBucket);
        DOC.asks("Throws `IllegalArgumentException` if from and to are the same, or amount is out of range", () -> {
            EDGES.refused(ARGUMENT, EdgeNetworkTest::oneFlight, x -> x.fare(-1, 0, 0, 0, 1), x -> x.fare(0, 5, 5, 3, 1),
                x -> x.fare(0, 0, 1, 0, 0), x -> x.fare(0, 0, 1, 0, 5001));
            EDGES.refused(ARGUMENT, x -> fares(x, 16), x -> x.fare(0, 0, 0, 0, 1), x -> x.fare(0, 0, 1, 0, 0));
        });
        DOC.asks("Throws `IllegalStateException` if there are 16", () ->
            EDGES.refused(STATE, x -> fares(x, 16), x -> x.fare(0, 0, 1, 0, 1), x -> x.fare(-1, 5, 0, 3, 5000)));
    }

    private static void fares(FareLattice x, int count) {
        for (int i = 0; i < count; i++) {
            x.fare(0, 0, 1, 0, 100);
        }
    }

    private static void fareAdded() {
        int[] amounts = {1, 5000};
        for (int amount : amounts) {
            FareLattice x = new FareLattice();
            Networks.daily(x, 2, 5, 0, 12, 1, 5);
            x.leg(1);
            x.fare(2, 5, 0, 3, amount);
            CHECK.same("its amount", amount, x.price(1));
            CHECK.same("the 16th as well", 15, lastOfSixteen(x));
            CHECK.same("which is dearer", amount, x.price(5));
        }
    }

    private static int lastOfSixteen(FareLattice x) {
        int last = -1;
        for (int i = 0; i < 15; i++) {
            last = x.fare(0, 0, 1, 0, 5000);
        }
        return last;
    }

    private static void numbersOfFares() {
        FareLattice x = new FareLattice();
        for (int i = 0; i < 16; i++) {
            CHECK.same("one behind the other", i, x.fare(i % 4 - 1, i % 6, (i + 1) % 6, i % 4, 1 + i));
        }
    }

    private static void fareOfNoCarrierAirportOrBucket() {
        EDGES.refused(INDEX, Edges.NEW, x -> x.fare(-2, 0, 1, 0, 1), x -> x.fare(3, 0, 1, 0, 1),
            x -> x.fare(0, -1, 1, 0, 1), x -> x.fare(0, 6, 1, 0, 1), x -> x.fare(0, 0, -1, 0, 1),
            x -> x.fare(0, 0, 6, 0, 1), x -> x.fare(0, 0, 1, -1, 1), x -> x.fare(0, 0, 1, 4, 1));
        EDGES.refused(INDEX, Edges.NEW, x -> x.fare(3, 0, 0, 0, 1), x -> x.fare(0, 6, 6, 0, 1),
            x -> x.fare(0, 0, 0, 4, 1), x -> x.fare(0, 0, 1, -1, 0), x -> x.fare(-2, 0, 1, 0, 5001));
        EDGES.refused(INDEX, x -> fares(x, 16), x -> x.fare(3, 0, 1, 0, 1), x -> x.fare(0, 0, 1, 4, 1),
            x -> x.fare(0, 6, 1, 0, 0));
    }

    // ---- promise 9

    private static void rules() {
        DOC.in("Promise 9: rules");
        DOC.asks("Sets the rules of a fare, for what is held from now on.", EdgeNetworkTest::rulesFromNowOn);
        DOC.asks("- `fare`: a fare", () -> EDGES.range(0, 1, INDEX, EdgeNetworkTest::twoOfEach,
            (x, v) -> rule(x, v, 0, 61, 0, 0)));
        DOC.asks("- `first`: -1 to 61", () -> EDGES.range(-1, 61, ARGUMENT, EdgeNetworkTest::twoOfEach,
            (x, v) -> rule(x, 0, v, 61, 0, 0)));
        DOC.asks("- `last`: first to 61", EdgeNetworkTest::lastDayOfRules);
        DOC.asks("- `advance`: 0 to 30 days", EdgeNetworkTest::advanceOfRules);
        DOC.asks("- `isReturn`: whether it is a half of a return", EdgeNetworkTest::returnOfRules);
        DOC.asks("- `stay`: 0 to 30 days", EdgeNetworkTest::stayOfRules);
        DOC.asks("- `isOwn`: whether it is combined with fares of its carrier alone", EdgeNetworkTest::ownOfRules);
        DOC.asks("Throws `IndexOutOfBoundsException` if there is no such fare", () ->
            EDGES.refused(INDEX, EdgeNetworkTest::oneFlight, x -> rule(x, -1, 0, 61, 0, 0), x -> rule(x, 1, 0, 61, 0, 0),
                x -> rule(x, 1, -2, 61, 0, 0), x -> rule(x, -1, 5, 4, 0, 0), x -> rule(x, 1, 0, 61, 31, 0),
                x -> rule(x, 1, 0, 61, 0, -1)));
        DOC.asks("Throws `IllegalArgumentException` if first, last, advance or stay is out of range", () ->
            EDGES.refused(ARGUMENT, EdgeNetworkTest::drafted, x -> rule(x, 0, -2, 61, 0, 0), x -> rule(x, 0, 62, 62, 0, 0),
                x -> rule(x, 0, 5, 4, 0, 0), x -> rule(x, 0, 0, 62, 0, 0), x -> rule(x, 0, 9, 9, -1, 0),
                x -> rule(x, 0, 9, 9, 31, 0), x -> rule(x, 0, 9, 9, 0, -1), x -> rule(x, 0, 9, 9, 0, 31)));
    }

    private static int rule(FareLattice x, int fare, int first, int last, int advance, int stay) {
        x.rules(fare, first, last, advance, false, stay, false);
        return 0;
    }

    /** One flight, with its leg of the day 1 drafted, so that its price shows what rules there are. */
    private static void drafted(FareLattice x) {
        oneFlight(x);
        x.leg(1);
    }

    private static void rulesFromNowOn() {
        FareLattice x = Edges.after(EdgeNetworkTest::oneFlight);
        int held = Networks.held(x, 1, -1, 1);
        Networks.draft(x, 1);
        int wish = x.wish(1, -1);
        x.leg(1);
        rule(x, 0, 2, 61, 0, 0);
        CHECK.same("not for what is drafted", -1, x.price(1));
        CHECK.state("it can't be held", () -> x.hold(1, -1, 1));
        CHECK.same("nor what is wished", 0, x.clear());
        CHECK.same("what was held can be ticketed", 100, x.ticket(held));
        rule(x, 0, 1, 61, 0, 0);
        CHECK.same("again, for what is wished", 1, x.clear());
        CHECK.same("by the next booking", 1, x.wished(wish));
    }

    private static void lastDayOfRules() {
        EDGES.range(-1, 61, ARGUMENT, EdgeNetworkTest::twoOfEach, (x, v) -> rule(x, 0, -1, v, 0, 0));
        EDGES.range(7, 61, ARGUMENT, EdgeNetworkTest::twoOfEach, (x, v) -> rule(x, 0, 7, v, 0, 0));
        EDGES.range(61, 61, ARGUMENT, EdgeNetworkTest::twoOfEach, (x, v) -> rule(x, 0, 61, v, 0, 0));
    }

    private static void advanceOfRules() {
        EDGES.range(0, 30, ARGUMENT, EdgeNetworkTest::twoOfEach, (x, v) -> rule(x, 0, 0, 61, v, 0));
        FareLattice x = new FareLattice();
        int flight = x.flight(0, 0, 1, 0, 2, 5);
        x.days(flight, 0, 60, 127);
        x.fare(0, 0, 1, 0, 100);
        rule(x, 0, 0, 61, 30, 0);
        Networks.draft(x, 30);
        CHECK.same("30 days", 100, x.price(1));
        Networks.draft(x, 29);
        CHECK.same("29 days", -1, x.price(1));
    }

    private static void returnOfRules() {
        FareLattice x = Edges.after(EdgeNetworkTest::drafted);
        x.rules(0, -1, 61, 0, true, 0, false);
        CHECK.same("a half alone", -1, x.price(1));
        x.rules(0, -1, 61, 0, false, 0, false);
        CHECK.same("none", 100, x.price(1));
    }

    private static void stayOfRules() {
        EDGES.range(0, 30, ARGUMENT, EdgeNetworkTest::twoOfEach, (x, v) -> rule(x, 0, 0, 61, 0, v));
        FareLattice x = new FareLattice();
        x.flight(0, 0, 1, 12, 2, 5);
        x.flight(0, 1, 0, 14, 2, 5);
        x.flight(0, 1, 0, 13, 2, 5);
        for (int i = 0; i < 3; i++) {
            x.days(i, 0, 60, 127);
        }
        x.fare(0, 0, 1, 0, 100);
        x.fare(0, 1, 0, 0, 100);
        x.rules(0, -1, 61, 0, true, 30, false);
        x.rules(1, -1, 61, 0, true, 0, false);
        Networks.draft(x, 1, 131);
        CHECK.same("30 days", 200, x.price(1));
        Networks.draft(x, 1, 231);
        CHECK.same("1 hour less", -1, x.price(1));
    }

    private static void ownOfRules() {
        FareLattice x = Edges.after(EdgeNetworkTest::threeFlights);
        x.fare(0, 0, 1, 0, 100);
        x.fare(-1, 1, 2, 0, 50);
        Networks.draft(x, 1, 201);
        CHECK.same("freely combined", 150, x.price(1));
        x.rules(0, -1, 61, 0, false, 0, true);
        CHECK.same("with its carrier alone", -1, x.price(1));
        x.rules(0, -1, 61, 0, false, 0, false);
        CHECK.same("freely combined again", 150, x.price(1));
    }

    // ---- promise 10

    private static void back() {
        DOC.in("Promise 10: back");
        DOC.asks("Sets how much of a fare is given back, of what is held from now on.", EdgeNetworkTest::backFromNowOn);
        DOC.asks("- `fare`: a fare", () -> EDGES.range(0, 1, INDEX, EdgeNetworkTest::twoOfEach, (x, v) -> x.back(v, 7)));
        DOC.asks("- `percent`: 0 to 100", () -> EDGES.range(0, 100, ARGUMENT, EdgeNetworkTest::twoOfEach, (x, v) -> x.back(0, v)));
        DOC.asks("Returns the percentage before.", EdgeNetworkTest::percentageBefore);
        DOC.asks("Throws `IndexOutOfBoundsException` if there is no such fare", () ->
            EDGES.refused(INDEX, EdgeNetworkTest::oneFlight, x -> x.back(-1, 0), x -> x.back(1, 0), x -> x.back(1, 101),
                x -> x.back(-1, -1)));
        DOC.asks("Throws `IllegalArgumentException` if percent is out of range", () ->
            EDGES.refused(ARGUMENT, EdgeNetworkTest::oneFlight, x -> x.back(0, -1), x -> x.back(0, 101)));
    }

    private static void backFromNowOn() {
        FareLattice x = Edges.after(EdgeNetworkTest::oneFlight);
        x.back(0, 0);
        int none = Networks.ticketed(x, 1, -1, 1);
        x.back(0, 100);
        int held = Networks.held(x, 1, -1, 1);
        Networks.draft(x, 1);
        int wish = x.wish(1, -1);
        x.back(0, 30);
        x.ticket(held);
        x.clear();
        x.ticket(x.wished(wish));
        CHECK.same("nothing", 0, x.cancel(none));
        CHECK.same("all, though it was ticketed later", 100, x.cancel(held));
        CHECK.same("what was wished is held later", 30, x.cancel(x.wished(wish)));
    }

    private static void percentageBefore() {
        FareLattice x = Edges.after(EdgeNetworkTest::twoOfEach);
        CHECK.same("50 at first", 50, x.back(0, 0));
        CHECK.same("the least", 0, x.back(0, 100));
        CHECK.same("the most", 100, x.back(0, 100));
        CHECK.same("another fare has its own", 50, x.back(1, 1));
    }

    public static void main(String[] args) {
        newObject();
        setZone();
        setTax();
        flight();
        days();
        limit();
        link();
        fare();
        rules();
        back();
        DOC.close();
    }
}
