/** Promises 1 to 10: a new object, airports, flights and fares. */
public final class NetworkTest {
    private static final Check CHECK = new Check("NetworkTest");

    private static void newObject() {
        FareLattice x = new FareLattice();
        CHECK.same("NONE", -1, FareLattice.NONE);
        CHECK.index("no flight at first", () -> x.limit(0, 0, 0));
        CHECK.index("no fare at first", () -> x.back(0, 0));
        CHECK.index("no booking at first", () -> x.booking(0));
        CHECK.index("no wish at first", () -> x.wished(0));
        CHECK.same("no leg in the draft at first", 0, x.dropLegs());
        CHECK.same("no price of no leg", -1, x.price(1));
        CHECK.same("no tax of no leg", 0, x.taxes());
        CHECK.same("nobody denied at first", 0, x.denied());
        for (int i = 0; i < 5; i++) {
            CHECK.same("no points at first", 0, x.points(i));
        }
        CHECK.same("the hour is 0 at first", 1, x.pass(1));
        FareLattice other = new FareLattice();
        other.setZone(0, 3);
        CHECK.same("objects are apart", 0, new FareLattice().setZone(0, 0));
    }

    private static void zones() {
        FareLattice x = new FareLattice();
        CHECK.same("zone 0 at first", 0, x.setZone(5, -12));
        CHECK.same("the zone before", -12, x.setZone(5, 14));
        CHECK.same("the zone before, again", 14, x.setZone(5, 0));
        CHECK.same("another airport has its own", 0, x.setZone(0, 2));
        CHECK.index("airport -1", () -> x.setZone(-1, 0));
        CHECK.index("airport 6, ahead of a wrong zone", () -> x.setZone(6, 15));
        CHECK.argument("zone -13", () -> x.setZone(0, -13));
        CHECK.argument("zone 15", () -> x.setZone(0, 15));
        CHECK.same("what threw changed nothing", 2, x.setZone(0, 2));
        x.flight(0, 0, 1, 0, 1, 1);
        CHECK.state("a flight is there", () -> x.setZone(2, 1));
        CHECK.argument("a wrong zone goes ahead of that", () -> x.setZone(2, 15));
        CHECK.index("a wrong airport goes ahead of that", () -> x.setZone(-1, 0));
    }

    private static void zonesMoveDepartures() {
        FareLattice x = new FareLattice();
        x.setZone(0, 14);
        x.setZone(1, -12);
        int east = Networks.daily(x, 0, 1, 3, 2, 5);
        int west = Networks.daily(x, 1, 0, 3, 2, 5);
        CHECK.same("the zone goes off the local hour", 24 + 3 - 14, x.departure(100 * east + 1));
        CHECK.same("a zone below 0", 24 + 3 + 12, x.departure(100 * west + 1));
        CHECK.same("ahead of the hour 0", -11, x.departure(100 * east));
        CHECK.same("departed from the beginning", 1, x.standing(100 * east));
        CHECK.same("the day's local hours count on", 0, x.standing(100 * east + 1));
    }

    private static void taxes() {
        FareLattice x = new FareLattice();
        CHECK.same("tax 0 at first", 0, x.setTax(0, 500));
        CHECK.same("the tax before", 500, x.setTax(0, 7));
        CHECK.same("another airport has its own", 0, x.setTax(5, 1));
        CHECK.index("airport -1, ahead of a wrong tax", () -> x.setTax(-1, -1));
        CHECK.index("airport 6", () -> x.setTax(6, 0));
        CHECK.argument("tax -1", () -> x.setTax(0, -1));
        CHECK.argument("tax 501", () -> x.setTax(0, 501));
        CHECK.same("what threw changed nothing", 7, x.setTax(0, 0));
        x.flight(0, 0, 1, 0, 1, 1);
        CHECK.same("taxes can be set when there are flights", 0, x.setTax(0, 3));
    }

    private static void flights() {
        FareLattice x = new FareLattice();
        CHECK.index("carrier -1", () -> x.flight(-1, 0, 1, 0, 1, 1));
        CHECK.index("carrier 3", () -> x.flight(3, 0, 1, 0, 1, 1));
        CHECK.index("from -1", () -> x.flight(0, -1, 1, 0, 1, 1));
        CHECK.index("to 6, ahead of wrong seats", () -> x.flight(0, 0, 6, 0, 1, 0));
        CHECK.index("from 6 and to 6", () -> x.flight(0, 6, 6, 0, 1, 1));
        CHECK.argument("from and to the same", () -> x.flight(0, 2, 2, 0, 1, 1));
        CHECK.argument("hour -1", () -> x.flight(0, 0, 1, -1, 1, 1));
        CHECK.argument("hour 24", () -> x.flight(0, 0, 1, 24, 1, 1));
        CHECK.argument("length 0", () -> x.flight(0, 0, 1, 0, 0, 1));
        CHECK.argument("length 21", () -> x.flight(0, 0, 1, 0, 21, 1));
        CHECK.argument("seats 0", () -> x.flight(0, 0, 1, 0, 1, 0));
        CHECK.argument("seats 61", () -> x.flight(0, 0, 1, 0, 1, 61));
        CHECK.same("what threw added nothing", 0, x.flight(2, 0, 5, 23, 20, 60));
        CHECK.index("it goes on no day yet", () -> x.departure(0));
        for (int i = 1; i < 12; i++) {
            CHECK.same("flights are numbered", i, x.flight(0, 5, 0, 0, 1, 1));
        }
        CHECK.state("there are 12", () -> x.flight(0, 0, 1, 0, 1, 1));
        CHECK.argument("a wrong argument goes ahead of that", () -> x.flight(0, 0, 0, 0, 1, 1));
        CHECK.index("a wrong carrier goes ahead of that", () -> x.flight(3, 0, 1, 0, 1, 1));
    }

    private static void days() {
        FareLattice x = new FareLattice();
        CHECK.index("no such flight", () -> x.days(0, 0, 60, 127));
        for (int i = 0; i < 6; i++) {
            x.flight(0, 0, 1, 12, 1, 1);
        }
        CHECK.index("flight -1, ahead of a wrong set", () -> x.days(-1, 0, 60, 0));
        CHECK.argument("first -1", () -> x.days(0, -1, 60, 127));
        CHECK.argument("first 61", () -> x.days(0, 61, 61, 127));
        CHECK.argument("last ahead of first", () -> x.days(0, 5, 4, 127));
        CHECK.argument("last 61", () -> x.days(0, 0, 61, 127));
        CHECK.argument("set 0", () -> x.days(0, 0, 60, 0));
        CHECK.argument("set 128", () -> x.days(0, 0, 60, 128));
        CHECK.same("all days", 61, x.days(0, 0, 60, 127));
        CHECK.state("they were set", () -> x.days(0, 0, 60, 127));
        CHECK.argument("a wrong set goes ahead of that", () -> x.days(0, 0, 60, 0));
        CHECK.same("remainders 0 and 2", 4, x.days(1, 3, 16, 5));
        CHECK.index("day 8 has the remainder 1", () -> x.departure(108));
        CHECK.same("day 9 has the remainder 2", 9 * 24 + 12, x.departure(109));
        CHECK.same("day 7 has the remainder 0", 7 * 24 + 12, x.departure(107));
        CHECK.index("day 2 is ahead of the first one", () -> x.departure(102));
        CHECK.same("day 16 is the last one", 16 * 24 + 12, x.departure(116));
        CHECK.index("day 21 is behind the last one", () -> x.departure(121));
        CHECK.same("none of the days", 0, x.days(2, 1, 2, 8));
        CHECK.state("that counts as set", () -> x.days(2, 0, 60, 127));
        CHECK.same("remainder 6 alone", 8, x.days(3, 0, 60, 64));
        CHECK.same("remainder 0 alone", 9, x.days(5, 0, 60, 1));
        CHECK.same("one day", 1, x.days(4, 60, 60, 127));
        CHECK.same("the last day", 60 * 24 + 12, x.departure(460));
    }

    private static void limits() {
        FareLattice x = new FareLattice();
        int flight = Networks.daily(x, 0, 1, 12, 1, 5);
        for (int bucket = 0; bucket < 4; bucket++) {
            CHECK.same("a limit is the seats at first", 5, x.limit(flight, bucket, 5));
        }
        CHECK.same("the limit before", 5, x.limit(flight, 1, 15));
        CHECK.same("the limit before, again", 15, x.limit(flight, 1, 0));
        CHECK.same("of this bucket alone", 5, x.limit(flight, 2, 5));
        CHECK.index("flight -1", () -> x.limit(-1, 0, 0));
        CHECK.index("flight 1", () -> x.limit(1, 0, 0));
        CHECK.index("bucket -1", () -> x.limit(0, -1, 0));
        CHECK.index("bucket 4, ahead of a wrong limit", () -> x.limit(0, 4, -1));
        CHECK.argument("limit -1", () -> x.limit(0, 0, -1));
        CHECK.argument("limit above the seats and 10", () -> x.limit(0, 0, 16));
        CHECK.same("what threw changed nothing", 5, x.limit(0, 0, 5));
    }

    private static void links() {
        FareLattice x = new FareLattice();
        x.flight(0, 0, 1, 0, 1, 1);
        x.flight(0, 1, 2, 0, 1, 1);
        x.flight(0, 1, 0, 0, 1, 1);
        CHECK.same("none at first", -1, x.link(0, 1, false));
        CHECK.same("the other one before", 1, x.link(0, 2, true));
        CHECK.same("to none", 2, x.link(0, -1, false));
        CHECK.same("none again", -1, x.link(0, 1, false));
        CHECK.index("flight -1", () -> x.link(-1, 0, false));
        CHECK.index("flight 3", () -> x.link(3, 0, false));
        CHECK.index("other -2", () -> x.link(0, -2, false));
        CHECK.index("other 3", () -> x.link(0, 3, false));
        CHECK.argument("it does not begin there", () -> x.link(1, 2, false));
        CHECK.argument("not to itself", () -> x.link(0, 0, false));
        CHECK.same("what threw changed nothing", 1, x.link(0, 1, false));
        CHECK.same("other flights have their own", -1, x.link(2, 0, true));
    }

    private static void fares() {
        FareLattice x = new FareLattice();
        CHECK.index("carrier -2", () -> x.fare(-2, 0, 1, 0, 1));
        CHECK.index("carrier 3", () -> x.fare(3, 0, 1, 0, 1));
        CHECK.index("from -1", () -> x.fare(0, -1, 1, 0, 1));
        CHECK.index("to 6", () -> x.fare(0, 0, 6, 0, 1));
        CHECK.index("bucket 4, ahead of a wrong amount", () -> x.fare(0, 0, 1, 4, 0));
        CHECK.index("bucket -1, ahead of from and to the same", () -> x.fare(0, 0, 0, -1, 1));
        CHECK.argument("from and to the same", () -> x.fare(0, 3, 3, 0, 1));
        CHECK.argument("amount 0", () -> x.fare(0, 0, 1, 0, 0));
        CHECK.argument("amount 5001", () -> x.fare(0, 0, 1, 0, 5001));
        CHECK.same("what threw added nothing", 0, x.fare(-1, 0, 1, 0, 5000));
        for (int i = 1; i < 16; i++) {
            CHECK.same("fares are numbered", i, x.fare(2, 5, 0, 3, 1));
        }
        CHECK.state("there are 16", () -> x.fare(0, 0, 1, 0, 1));
        CHECK.argument("a wrong amount goes ahead of that", () -> x.fare(0, 0, 1, 0, 0));
        CHECK.index("a wrong bucket goes ahead of that", () -> x.fare(0, 0, 1, 4, 1));
    }

    private static void rules() {
        FareLattice x = new FareLattice();
        Networks.daily(x, 0, 1, 12, 1, 5);
        x.fare(0, 0, 1, 0, 100);
        CHECK.index("fare -1", () -> x.rules(-1, -1, 61, 0, false, 0, false));
        CHECK.index("fare 1, ahead of a wrong stay", () -> x.rules(1, -1, 61, 0, false, 31, false));
        CHECK.argument("first -2", () -> x.rules(0, -2, 61, 0, false, 0, false));
        CHECK.argument("first 62", () -> x.rules(0, 62, 62, 0, false, 0, false));
        CHECK.argument("last ahead of first", () -> x.rules(0, 5, 4, 0, false, 0, false));
        CHECK.argument("last 62", () -> x.rules(0, 0, 62, 0, false, 0, false));
        CHECK.argument("advance -1", () -> x.rules(0, 0, 61, -1, false, 0, false));
        CHECK.argument("advance 31", () -> x.rules(0, 0, 61, 31, false, 0, false));
        CHECK.argument("stay -1", () -> x.rules(0, 0, 61, 0, false, -1, false));
        CHECK.argument("stay 31", () -> x.rules(0, 0, 61, 0, false, 31, false));
        Networks.draft(x, 1);
        CHECK.same("what threw changed nothing", 100, x.price(1));
        x.rules(0, 61, 61, 30, true, 30, true);
        CHECK.same("the utmost rules are taken", -1, x.price(1));
        x.rules(0, -1, -1, 0, false, 0, false);
        CHECK.same("no day", -1, x.price(1));
        x.rules(0, 1, 1, 0, false, 0, false);
        CHECK.same("new rules go in place of the old ones", 100, x.price(1));
    }

    private static void back() {
        FareLattice x = new FareLattice();
        x.fare(0, 0, 1, 0, 100);
        CHECK.same("50 at first", 50, x.back(0, 0));
        CHECK.same("the percentage before", 0, x.back(0, 100));
        CHECK.index("fare -1", () -> x.back(-1, 0));
        CHECK.index("fare 1, ahead of a wrong percentage", () -> x.back(1, 101));
        CHECK.argument("percent -1", () -> x.back(0, -1));
        CHECK.argument("percent 101", () -> x.back(0, 101));
        CHECK.same("what threw changed nothing", 100, x.back(0, 50));
    }

    private static void backIsFixedWhenHeld() {
        FareLattice x = new FareLattice();
        Networks.daily(x, 0, 1, 12, 1, 5);
        x.fare(0, 0, 1, 0, 99);
        int early = Networks.ticketed(x, 1, -1, 1);
        x.back(0, 80);
        int late = Networks.ticketed(x, 2, -1, 1);
        x.back(0, 0);
        CHECK.same("the percentage when it was held, rounded down", 49, x.cancel(early));
        CHECK.same("rounded down for each person", 2 * 79, x.cancel(late));
    }

    public static void main(String[] args) {
        newObject();
        zones();
        zonesMoveDepartures();
        taxes();
        flights();
        days();
        limits();
        links();
        fares();
        rules();
        back();
        backIsFixedWhenHeld();
        CHECK.close();
    }
}
