import java.util.List;

/** Promises 24 to 35, sentence by sentence: a test of its own at the edges of each. */
public final class EdgeBookingsTest {
    private static final Check CHECK = new Check("EdgeBookingsTest");
    private static final Edges EDGES = new Edges(CHECK);
    private static final Sentences DOC = new Sentences(CHECK, List.of("Promise 24: hold", "Promise 25: wish",
        "Promise 26: clear", "Promise 27: wished", "Promise 28: ticket", "Promise 29: part", "Promise 30: cancel",
        "Promise 31: booking", "Promise 32: coupon", "Promise 33: share", "Promise 34: check", "Promise 35: volunteer"));
    private static final String INDEX = Edges.INDEX;
    private static final String ARGUMENT = Edges.ARGUMENT;
    private static final String STATE = Edges.STATE;

    /** A flight 0 from 0 to 1 at 12 with 9 seats, on the days 0 to 20, and a fare 0 of 100 for it. */
    private static void oneFlight(FareLattice x) {
        Networks.daily(x, 0, 1, 12, 2, 9);
        x.fare(0, 0, 1, 0, 100);
    }

    /** The same, with the leg of the day 3 drafted. */
    private static void drafted(FareLattice x) {
        oneFlight(x);
        x.leg(3);
    }

    /** A leg of the day 3 drafted, for which there are 60 seats and as many bookings as asked. */
    private static void bookings(FareLattice x, int count) {
        Networks.daily(x, 0, 1, 12, 2, 60);
        x.fare(0, 0, 1, 0, 100);
        for (int i = 0; i < count; i++) {
            Networks.held(x, 1 + (i == 0 ? 1 : 0), -1, 3);
        }
        x.leg(3);
    }

    private static void fortyBookings(FareLattice x) {
        bookings(x, 40);
    }

    private static void wishes(FareLattice x, int count) {
        oneFlight(x);
        for (int i = 0; i < count; i++) {
            Networks.draft(x, 3);
            x.wish(9, -1);
        }
    }

    /** Bookings 0 to 3 that are HELD, TICKETED, LAPSED and CANCELLED, of 3 persons with two coupons each; the time is 2. */
    private static void fourStates(FareLattice x) {
        Networks.daily(x, 0, 1, 12, 2, 60);
        Networks.daily(x, 1, 2, 15, 2, 60);
        x.fare(0, 0, 2, 1, 101);
        for (int i = 0; i < 4; i++) {
            Networks.draft(x, 1, 101);
            x.hold(3, i, i == 2 ? 1 : 72);
        }
        x.ticket(1);
        x.cancel(3);
        x.pass(2);
    }

    private static final int[] NO_BOOKINGS = {-1, 4, 39, 40, Integer.MIN_VALUE, Integer.MAX_VALUE};

    /** A call with any booking that is there is taken, whatever its state, unless it is left out. */
    private static void aBooking(Edges.With call, int... bookings) {
        EDGES.takes(EdgeBookingsTest::fourStates, call, bookings);
    }

    private static void noBooking(Edges.With call) {
        EDGES.refuses(INDEX, EdgeBookingsTest::fourStates, call, NO_BOOKINGS);
        EDGES.refuses(INDEX, Edges.NEW, call, -1, 0, 1);
    }

    /** Each booking of the four has the coupons 0 and 1. */
    private static void noCoupon(Edges.With call) {
        EDGES.refuses(INDEX, EdgeBookingsTest::fourStates, call, -1, 2, 9, 10, Integer.MIN_VALUE, Integer.MAX_VALUE);
    }

    // ---- promise 24

    private static void hold() {
        DOC.in("Promise 24: hold");
        DOC.asks("Holds the draft, which is empty then.", EdgeBookingsTest::draftHeld);
        DOC.asks("- `persons`: 1 to 9", () ->
            EDGES.range(1, 9, ARGUMENT, EdgeBookingsTest::drafted, (x, persons) -> x.hold(persons, -1, 1)));
        DOC.asks("- `member`: 0 to 4, or -1", () ->
            EDGES.range(-1, 4, INDEX, EdgeBookingsTest::drafted, (x, member) -> x.hold(1, member, 1)));
        DOC.asks("- `hours`: 1 to 72: its limit is so many hours later than now", EdgeBookingsTest::hoursOfHold);
        DOC.asks("Returns number of the booking.", () -> {
            FareLattice x = Edges.after(EdgeBookingsTest::drafted);
            CHECK.same("the first one", 0, x.hold(1, -1, 1));
            CHECK.same("the last one", 39, Edges.after(y -> bookings(y, 39)).hold(1, -1, 1));
        });
        DOC.asks("Throws `IndexOutOfBoundsException` if there is no such member", () -> {
            EDGES.refused(INDEX, EdgeBookingsTest::drafted, x -> x.hold(1, -2, 1), x -> x.hold(1, 5, 1),
                x -> x.hold(0, 5, 1), x -> x.hold(10, -2, 1), x -> x.hold(1, 5, 0), x -> x.hold(1, -2, 73));
            EDGES.refused(INDEX, EdgeBookingsTest::oneFlight, x -> x.hold(1, 5, 1), x -> x.hold(10, -2, 73));
            EDGES.refused(INDEX, EdgeBookingsTest::fortyBookings, x -> x.hold(1, 5, 1), x -> x.hold(0, -2, 1));
        });
        DOC.asks("Throws `IllegalArgumentException` if persons or hours is out of range", () -> {
            EDGES.refused(ARGUMENT, EdgeBookingsTest::drafted, x -> x.hold(0, -1, 1), x -> x.hold(10, 4, 1),
                x -> x.hold(1, -1, 0), x -> x.hold(9, 0, 73));
            EDGES.refused(ARGUMENT, EdgeBookingsTest::oneFlight, x -> x.hold(0, -1, 1), x -> x.hold(1, -1, 73));
            EDGES.refused(ARGUMENT, EdgeBookingsTest::fortyBookings, x -> x.hold(10, -1, 1), x -> x.hold(1, -1, 0));
        });
        DOC.asks("Throws `IllegalStateException` if there is no way to build a price", EdgeBookingsTest::holdOfNoWay);
        DOC.asks(", or there are 40 bookings", () -> {
            EDGES.refused(STATE, EdgeBookingsTest::fortyBookings, x -> x.hold(1, -1, 1));
            EDGES.refused(STATE, x -> {
                fortyBookings(x);
                x.cancel(0);
                x.cancel(39);
            }, x -> x.hold(1, -1, 1));
        });
    }

    private static void draftHeld() {
        FareLattice x = Edges.after(EdgeBookingsTest::drafted);
        CHECK.same("the first booking", 0, x.hold(9, -1, 1));
        CHECK.same("HELD, one coupon, 9 persons", 19, x.booking(0));
        CHECK.same("no leg is drafted", 0, x.dropLegs());
        CHECK.same("the seats are sold", 0, x.open(3, 0));
        FareLattice y = new FareLattice();
        for (int i = 0; i < 4; i++) {
            Networks.daily(y, i, i + 1, 4 * i, 2, 9);
        }
        y.fare(0, 0, 4, 0, 10);
        CHECK.same("a journey of four legs", 0, Networks.held(y, 1, 4, 1, 101, 201, 301));
        CHECK.same("four coupons", 41, y.booking(0));
    }

    private static void hoursOfHold() {
        EDGES.range(1, 72, ARGUMENT, EdgeBookingsTest::drafted, (x, hours) -> x.hold(1, -1, hours));
        int[] hours = {1, 2, 71, 72};
        for (int limit : hours) {
            FareLattice x = Edges.after(EdgeBookingsTest::oneFlight);
            x.pass(5);
            Networks.draft(x, 7);
            x.hold(1, -1, limit);
            if (limit > 1) {
                x.pass(limit - 1);
            }
            CHECK.same("an hour ahead of " + limit, 11, x.booking(0));
            x.pass(1);
            CHECK.same("at " + limit, 2011, x.booking(0));
        }
    }

    private static void holdOfNoWay() {
        EDGES.refused(STATE, Edges.NEW, x -> x.hold(1, -1, 1));
        EDGES.refused(STATE, EdgeBookingsTest::oneFlight, x -> x.hold(1, -1, 1));
        EDGES.refused(STATE, x -> {
            drafted(x);
            x.limit(0, 0, 8);
        }, x -> x.hold(9, -1, 1));
        EDGES.taken(x -> {
            drafted(x);
            x.limit(0, 0, 8);
        }, x -> x.hold(8, -1, 1));
        EDGES.refused(STATE, x -> {
            drafted(x);
            x.cancelLeg(3);
        }, x -> x.hold(1, -1, 1));
        EDGES.refused(STATE, x -> {
            drafted(x);
            x.pass(84);
        }, x -> x.hold(1, -1, 1));
        EDGES.taken(x -> {
            drafted(x);
            x.pass(83);
        }, x -> x.hold(1, -1, 1));
    }

    // ---- promise 25

    private static void wish() {
        DOC.in("Promise 25: wish");
        DOC.asks("Makes a wish of the draft, which is empty then.", EdgeBookingsTest::wishOfTheDraft);
        DOC.asks("- `persons`: 1 to 9", () ->
            EDGES.range(1, 9, ARGUMENT, EdgeBookingsTest::drafted, (x, persons) -> x.wish(persons, -1)));
        DOC.asks("- `member`: 0 to 4, or -1", () ->
            EDGES.range(-1, 4, INDEX, EdgeBookingsTest::drafted, (x, member) -> x.wish(1, member)));
        DOC.asks("Returns number of the wish.", () -> {
            FareLattice x = Edges.after(EdgeBookingsTest::oneFlight);
            for (int i = 0; i < 20; i++) {
                Networks.draft(x, 3);
                CHECK.same("one behind the other", i, x.wish(1, -1));
            }
        });
        DOC.asks("Throws `IndexOutOfBoundsException` if there is no such member", () -> {
            EDGES.refused(INDEX, EdgeBookingsTest::drafted, x -> x.wish(1, -2), x -> x.wish(1, 5), x -> x.wish(0, 5),
                x -> x.wish(10, -2));
            EDGES.refused(INDEX, EdgeBookingsTest::oneFlight, x -> x.wish(1, 5), x -> x.wish(0, -2));
            EDGES.refused(INDEX, EdgeBookingsTest::twentyWishes, x -> x.wish(1, 5), x -> x.wish(10, -2));
        });
        DOC.asks("Throws `IllegalArgumentException` if persons is out of range", () -> {
            EDGES.refused(ARGUMENT, EdgeBookingsTest::drafted, x -> x.wish(0, -1), x -> x.wish(10, 4));
            EDGES.refused(ARGUMENT, EdgeBookingsTest::oneFlight, x -> x.wish(0, -1), x -> x.wish(10, -1));
            EDGES.refused(ARGUMENT, EdgeBookingsTest::twentyWishes, x -> x.wish(0, -1), x -> x.wish(10, -1));
        });
        DOC.asks("Throws `IllegalStateException` if the draft is empty", () -> {
            EDGES.refused(STATE, Edges.NEW, x -> x.wish(1, -1));
            EDGES.refused(STATE, EdgeBookingsTest::oneFlight, x -> x.wish(9, 4));
        });
        DOC.asks(", or there are 20 wishes", () -> {
            EDGES.refused(STATE, EdgeBookingsTest::twentyWishes, x -> x.wish(1, -1), x -> x.wish(9, 4));
            EDGES.refused(STATE, x -> {
                twentyWishes(x);
                x.clear();
            }, x -> x.wish(1, -1));
            EDGES.taken(x -> {
                wishes(x, 19);
                x.leg(3);
            }, x -> x.wish(1, -1));
        });
    }

    private static void twentyWishes(FareLattice x) {
        wishes(x, 20);
        x.leg(3);
    }

    private static void wishOfTheDraft() {
        FareLattice x = Edges.after(EdgeBookingsTest::drafted);
        x.limit(0, 0, 0);
        CHECK.same("though there is no way", 0, x.wish(9, 4));
        CHECK.same("no leg is drafted", 0, x.dropLegs());
        CHECK.same("it waits", -1, x.wished(0));
        x.limit(0, 0, 9);
        CHECK.same("it is not held by itself", -1, x.wished(0));
        CHECK.same("until the list is cleared", 1, x.clear());
        CHECK.same("with its persons", 19, x.booking(0));
        CHECK.same("and its legs", 300, x.coupon(0, 0));
    }

    // ---- promise 26

    private static void clear() {
        DOC.in("Promise 26: clear");
        DOC.asks("Clears the list.", EdgeBookingsTest::listCleared);
        DOC.asks("Returns how many wishes are held by that", EdgeBookingsTest::countOfCleared);
        DOC.asks("; when there are 40 bookings, the others go on waiting.", EdgeBookingsTest::clearedUntilForty);
    }

    private static void listCleared() {
        CHECK.same("an empty one", 0, new FareLattice().clear());
        FareLattice x = Edges.after(EdgeBookingsTest::drafted);
        CHECK.same("no wish, but a draft", 0, x.clear());
        CHECK.same("which is as it was", 1, x.dropLegs());
        Networks.draft(x, 3);
        x.wish(9, -1);
        Networks.draft(x, 4);
        CHECK.same("one wish", 1, x.clear());
        CHECK.same("another draft is as it was, too", 1, x.dropLegs());
        x.cancel(0);
        CHECK.same("who was held waits no more", 0, x.clear());
    }

    private static void countOfCleared() {
        FareLattice x = new FareLattice();
        Networks.daily(x, 0, 1, 12, 2, 20);
        x.fare(0, 0, 1, 0, 100);
        for (int i = 0; i < 20; i++) {
            Networks.draft(x, 3);
            x.wish(1, -1);
        }
        CHECK.same("all 20", 20, x.clear());
        CHECK.same("the last of them", 19, x.wished(19));
        CHECK.same("then none", 0, x.clear());
        FareLattice y = Edges.after(z -> wishes(z, 2));
        CHECK.same("9 of 9 seats", 1, y.clear());
        CHECK.same("the other one goes on waiting", -1, y.wished(1));
        CHECK.same("none", 0, y.clear());
    }

    private static void clearedUntilForty() {
        FareLattice x = Edges.after(y -> bookings(y, 38));
        for (int i = 0; i < 3; i++) {
            Networks.draft(x, 4);
            x.wish(1, -1);
        }
        CHECK.same("two more", 2, x.clear());
        CHECK.same("the 39th", 38, x.wished(0));
        CHECK.same("the 40th", 39, x.wished(1));
        CHECK.same("the third goes on waiting", -1, x.wished(2));
        CHECK.same("also later", 0, x.clear());
        Networks.passTo(x, 0, 108);
        CHECK.same("until its leg has departed", -2, x.wished(2));
    }

    // ---- promise 27

    private static void wished() {
        DOC.in("Promise 27: wished");
        DOC.asks("Returns how a wish stands.", EdgeBookingsTest::wishByWish);
        DOC.asks("- `wish`: a wish", () -> EDGES.takes(EdgeBookingsTest::twentyWishes, (x, wish) -> x.wished(wish), 0, 19));
        DOC.asks("Returns the booking by which it is held", EdgeBookingsTest::bookingOfAWish);
        DOC.asks("; -1 if it waits, -2 if it waits no more.", EdgeBookingsTest::waitsUntilTheDeparture);
        DOC.asks("Throws `IndexOutOfBoundsException` if there is no such wish", () -> {
            EDGES.refuses(INDEX, Edges.NEW, (x, wish) -> x.wished(wish), 0, -1, 1);
            EDGES.refuses(INDEX, y -> wishes(y, 3), (x, wish) -> x.wished(wish), 3, -1, 19);
            EDGES.refuses(INDEX, EdgeBookingsTest::twentyWishes, (x, wish) -> x.wished(wish), 20, -1, -2,
                Integer.MAX_VALUE, Integer.MIN_VALUE);
        });
    }

    private static void wishByWish() {
        FareLattice x = Edges.after(EdgeBookingsTest::oneFlight);
        int[] legs = {2, 0, 3};
        for (int leg : legs) {
            Networks.draft(x, leg);
            x.wish(1, -1);
        }
        x.cancelLeg(3);
        x.pass(12);
        CHECK.same("one is held", 1, x.clear());
        CHECK.same("the first is", 0, x.wished(0));
        CHECK.same("the second waits no more", -2, x.wished(1));
        CHECK.same("the third waits", -1, x.wished(2));
    }

    private static void bookingOfAWish() {
        FareLattice x = Edges.after(z -> wishes(z, 1));
        Networks.held(x, 1, -1, 5);
        x.clear();
        CHECK.same("its booking", 1, x.wished(0));
        x.part(1, 4);
        x.cancel(1);
        CHECK.same("also when that is cancelled", 1, x.wished(0));
        CHECK.same("it is not held once more", 0, x.clear());
        x.pass(100);
        CHECK.same("also when its leg has departed", 1, x.wished(0));
    }

    private static void waitsUntilTheDeparture() {
        FareLattice x = Edges.after(EdgeBookingsTest::oneFlight);
        Networks.daily(x, 1, 2, 15, 2, 9);
        Networks.draft(x, 1, 101);
        x.wish(1, -1);
        Networks.draft(x, 101);
        x.wish(1, -1);
        x.delay(1, 2);
        x.pass(37);
        CHECK.same("an hour ahead of its delayed departure", -1, x.wished(0));
        x.pass(1);
        CHECK.same("at the departure of its first leg", -2, x.wished(0));
        CHECK.same("the other one's is ahead", -1, x.wished(1));
        x.cancelLeg(101);
        x.pass(100);
        CHECK.same("a cancelled one never departs", -1, x.wished(1));
        x.leg(1);
        x.wish(1, -1);
        CHECK.same("one that had departed when it was wished", -2, x.wished(2));
    }

    // ---- promise 28

    private static void ticket() {
        DOC.in("Promise 28: ticket");
        DOC.asks("Tickets a booking.", () -> {
            FareLattice x = Edges.after(EdgeBookingsTest::fourStates);
            x.ticket(0);
            CHECK.same("TICKETED", 1023, x.booking(0));
            CHECK.same("its coupons are OPEN", 110, x.coupon(0, 0));
            x.pass(100);
            CHECK.same("it does not lapse", 1023, x.booking(0));
        });
        DOC.asks("- `booking`: a booking", () -> {
            aBooking((x, booking) -> x.ticket(booking), 0);
            EDGES.takes(EdgeBookingsTest::fortyBookings, (x, booking) -> x.ticket(booking), 0, 39);
        });
        DOC.asks("Returns what is paid: fares and taxes for all persons.", EdgeBookingsTest::paidForAll);
        DOC.asks("Throws `IndexOutOfBoundsException` if there is no such booking", () -> noBooking((x, b) -> x.ticket(b)));
        DOC.asks("Throws `IllegalStateException` if it is not HELD", () ->
            EDGES.refuses(STATE, EdgeBookingsTest::fourStates, (x, b) -> x.ticket(b), 1, 2, 3));
    }

    private static void paidForAll() {
        FareLattice x = new FareLattice();
        for (int i = 0; i < 4; i++) {
            x.setTax(i, 500);
            Networks.daily(x, i, i + 1, 3, 1, 9);
            x.fare(-1, i, i + 1, 0, 5000);
        }
        int most = Networks.held(x, 9, -1, 1, 102, 203, 304);
        int one = Networks.held(x, 1, -1, 6);
        CHECK.same("the most there can be", 9 * 4 * 5500, x.ticket(most));
        CHECK.same("of one", 5500, x.ticket(one));
        FareLattice y = Edges.after(EdgeBookingsTest::oneFlight);
        CHECK.same("as it was held", 300, y.ticket(heldAheadOfTaxes(y)));
    }

    private static int heldAheadOfTaxes(FareLattice x) {
        int booking = Networks.held(x, 3, -1, 1);
        x.setTax(0, 500);
        x.fare(0, 0, 1, 0, 1);
        return booking;
    }

    // ---- promise 29

    private static void part() {
        DOC.in("Promise 29: part");
        DOC.asks("Parts a party.", () -> {
            FareLattice x = Edges.after(EdgeBookingsTest::fourStates);
            x.part(1, 2);
            CHECK.same("one is left", 1021, x.booking(1));
            CHECK.same("two are their own", 1022, x.booking(4));
            CHECK.argument("not both of these", () -> x.part(4, 2));
            CHECK.same("but one of them", 5, x.part(4, 1));
            CHECK.argument("who is alone does not part", () -> x.part(5, 1));
        });
        DOC.asks("- `booking`: a booking", () -> aBooking((x, booking) -> x.part(booking, 1), 0, 1));
        DOC.asks("- `persons`: 1 or more, fewer than it has", () -> {
            EDGES.range(1, 2, ARGUMENT, EdgeBookingsTest::fourStates, (x, persons) -> x.part(0, persons));
            EDGES.range(1, 2, ARGUMENT, EdgeBookingsTest::fourStates, (x, persons) -> x.part(1, persons));
            EDGES.range(1, 8, ARGUMENT, y -> {
                drafted(y);
                y.hold(9, -1, 9);
            }, (x, persons) -> x.part(0, persons));
            EDGES.refuses(ARGUMENT, y -> {
                drafted(y);
                y.hold(1, -1, 9);
            }, (x, persons) -> x.part(0, persons), 0, 1, 2);
        });
        DOC.asks("Returns number of their booking.", () -> {
            CHECK.same("the next one", 4, Edges.after(EdgeBookingsTest::fourStates).part(0, 1));
            CHECK.same("the last one", 39, Edges.after(y -> bookings(y, 39)).part(0, 1));
        });
        DOC.asks("Throws `IndexOutOfBoundsException` if there is no such booking", () -> {
            noBooking((x, b) -> x.part(b, 1));
            noBooking((x, b) -> x.part(b, 0));
            EDGES.refuses(INDEX, EdgeBookingsTest::fortyBookings, (x, b) -> x.part(b, 1), -1, 40);
        });
        DOC.asks("Throws `IllegalArgumentException` if persons is out of range", () -> {
            EDGES.refuses(ARGUMENT, EdgeBookingsTest::fourStates, (x, b) -> x.part(b, 0), 0, 1, 2, 3);
            EDGES.refuses(ARGUMENT, EdgeBookingsTest::fourStates, (x, b) -> x.part(b, 3), 0, 1, 2, 3);
            EDGES.refuses(ARGUMENT, EdgeBookingsTest::fortyBookings, (x, persons) -> x.part(0, persons), 0, 2);
        });
        DOC.asks("Throws `IllegalStateException` if it is LAPSED or CANCELLED", () ->
            EDGES.refuses(STATE, EdgeBookingsTest::fourStates, (x, b) -> x.part(b, 1), 2, 3));
        DOC.asks(", or there are 40", () -> {
            EDGES.refused(STATE, EdgeBookingsTest::fortyBookings, x -> x.part(0, 1));
            EDGES.taken(y -> bookings(y, 39), x -> x.part(0, 1));
        });
    }

    // ---- promise 30

    private static void cancel() {
        DOC.in("Promise 30: cancel");
        DOC.asks("Cancels a booking.", () -> {
            FareLattice x = Edges.after(EdgeBookingsTest::fourStates);
            CHECK.same("sold of two", 54, x.open(1, 0));
            x.cancel(0);
            CHECK.same("CANCELLED", 3023, x.booking(0));
            CHECK.same("its coupons are void", 115, x.coupon(0, 0));
            CHECK.same("all of them", 10115, x.coupon(0, 1));
            CHECK.same("its seats are open", 57, x.open(1, 0));
        });
        DOC.asks("- `booking`: a booking", () -> {
            aBooking((x, booking) -> x.cancel(booking), 0, 1);
            EDGES.takes(EdgeBookingsTest::fortyBookings, (x, booking) -> x.cancel(booking), 0, 39);
        });
        DOC.asks("Returns what is given back", () ->
            CHECK.same("half of 101, rounded down, for 3", 150, Edges.after(EdgeBookingsTest::fourStates).cancel(1)));
        DOC.asks(", 0 if it was HELD.", () -> {
            FareLattice x = new FareLattice();
            x.setTax(0, 500);
            oneFlight(x);
            x.back(0, 100);
            CHECK.same("nothing of what is held", 0, x.cancel(Networks.held(x, 9, -1, 3)));
            CHECK.same("all of what is ticketed", 5400, x.cancel(Networks.ticketed(x, 9, -1, 3)));
        });
        DOC.asks("Throws `IndexOutOfBoundsException` if there is no such booking", () -> noBooking((x, b) -> x.cancel(b)));
        DOC.asks("Throws `IllegalStateException` if it is LAPSED or CANCELLED", () ->
            EDGES.refuses(STATE, EdgeBookingsTest::fourStates, (x, b) -> x.cancel(b), 2, 3));
    }

    // ---- promise 31

    private static void booking() {
        DOC.in("Promise 31: booking");
        DOC.asks("Returns how a booking stands.", () -> {
            FareLattice x = Edges.after(EdgeBookingsTest::fourStates);
            x.ticket(0);
            CHECK.same("now it is ticketed", 1023, x.booking(0));
            x.part(0, 2);
            CHECK.same("now of one", 1021, x.booking(0));
            x.cancel(0);
            CHECK.same("now cancelled", 3021, x.booking(0));
        });
        DOC.asks("- `booking`: a booking", () -> {
            aBooking((x, booking) -> x.booking(booking), 0, 1, 2, 3);
            EDGES.takes(EdgeBookingsTest::fortyBookings, (x, booking) -> x.booking(booking), 0, 39);
        });
        DOC.asks("Returns 1000 * its state + 10 * its coupons + its persons.", EdgeBookingsTest::statesCouponsAndPersons);
        DOC.asks("Throws `IndexOutOfBoundsException` if there is no such booking", () -> noBooking((x, b) -> x.booking(b)));
    }

    private static void statesCouponsAndPersons() {
        FareLattice x = Edges.after(EdgeBookingsTest::fourStates);
        for (int state = 0; state < 4; state++) {
            CHECK.same("the state " + state, 1000 * state + 23, x.booking(state));
        }
        CHECK.same("1 coupon, 9 persons", 19, heldAs(9));
        CHECK.same("1 coupon, 1 person", 11, heldAs(1));
    }

    private static int heldAs(int persons) {
        FareLattice x = Edges.after(EdgeBookingsTest::oneFlight);
        return x.booking(Networks.held(x, persons, -1, 3));
    }

    // ---- promise 32

    private static void coupon() {
        DOC.in("Promise 32: coupon");
        DOC.asks("Returns a coupon of a booking.", () -> {
            FareLattice x = Edges.after(EdgeBookingsTest::fourStates);
            int[] states = {0, 0, 5, 5};
            for (int i = 0; i < 4; i++) {
                CHECK.same("the first of " + i, 110 + states[i], x.coupon(i, 0));
                CHECK.same("the last of " + i, 10110 + states[i], x.coupon(i, 1));
            }
        });
        DOC.asks("- `booking`: a booking", () -> aBooking((x, booking) -> x.coupon(booking, 0), 0, 1, 2, 3));
        DOC.asks("- `coupon`: 0 for the first one", () ->
            EDGES.range(0, 1, INDEX, EdgeBookingsTest::fourStates, (x, coupon) -> x.coupon(0, coupon)));
        DOC.asks("Returns 100 * the leg + 10 * the bucket + its state.", EdgeBookingsTest::legsBucketsAndStates);
        DOC.asks("Throws `IndexOutOfBoundsException` if there is no such booking or coupon", () -> {
            noBooking((x, b) -> x.coupon(b, 0));
            noBooking((x, b) -> x.coupon(b, 2));
            noCoupon((x, coupon) -> x.coupon(3, coupon));
        });
    }

    private static void legsBucketsAndStates() {
        FareLattice x = new FareLattice();
        for (int i = 0; i < 12; i++) {
            x.flight(0, 0, 1, 12, 2, 9);
        }
        x.days(11, 60, 60, 127);
        x.days(0, 0, 0, 127);
        x.fare(0, 0, 1, 3, 10);
        CHECK.same("the last leg in the last bucket", 116030, x.coupon(Networks.held(x, 1, -1, 1160), 0));
        CHECK.same("the first leg", 30, x.coupon(Networks.held(x, 1, -1, 0), 0));
        x.cancel(1);
        CHECK.same("in the last state", 35, x.coupon(1, 0));
        FareLattice y = Edges.after(EdgeBookingsTest::oneFlight);
        CHECK.same("the first leg, bucket and state", 0, y.coupon(Networks.held(y, 1, -1, 0), 0));
    }

    // ---- promise 33

    private static void share() {
        DOC.in("Promise 33: share");
        DOC.asks("Returns the share that the carrier of a coupon earns, for one person, when it is FLOWN.",
            EdgeBookingsTest::shareForOne);
        DOC.asks("- `booking`: a booking", () -> aBooking((x, booking) -> x.share(booking, 0), 0, 1, 2, 3));
        DOC.asks("- `coupon`: 0 for the first one", () ->
            EDGES.range(0, 1, INDEX, EdgeBookingsTest::fourStates, (x, coupon) -> x.share(0, coupon)));
        DOC.asks("Returns the amount; 0 for one that is MOVED.", EdgeBookingsTest::shareOfMoved);
        DOC.asks("Throws `IndexOutOfBoundsException` if there is no such booking or coupon", () -> {
            noBooking((x, b) -> x.share(b, 0));
            noBooking((x, b) -> x.share(b, 2));
            noCoupon((x, coupon) -> x.share(3, coupon));
        });
    }

    private static void shareForOne() {
        FareLattice x = Edges.after(EdgeBookingsTest::fourStates);
        for (int i = 0; i < 4; i++) {
            CHECK.same("half of 101, rounded down, of " + i, 50, x.share(i, 0));
            CHECK.same("what is left, of " + i, 51, x.share(i, 1));
        }
        x.pass(12);
        x.check(1, 0);
        x.pass(22);
        CHECK.same("it flies", 112, x.coupon(1, 0));
        CHECK.same("its share stays", 50, x.share(1, 0));
        CHECK.same("for 3 persons", 150, x.owed(0, 0));
    }

    private static void shareOfMoved() {
        FareLattice x = new FareLattice();
        Networks.once(x, 0, 1, 12, 2, 9, 1);
        Networks.once(x, 0, 1, 15, 2, 9, 1);
        x.fare(0, 0, 1, 0, 5000);
        int booking = Networks.ticketed(x, 1, -1, 1);
        CHECK.same("the most there can be", 5000, x.share(booking, 0));
        x.cancelLeg(1);
        CHECK.same("also while its leg is cancelled", 5000, x.share(booking, 0));
        x.repair();
        CHECK.same("0 of the one that is MOVED", 0, x.share(booking, 0));
        CHECK.same("the one behind it has it", 5000, x.share(booking, 1));
        x.cancelLeg(101);
        x.repair();
        CHECK.same("one that is VOID has it still", 5000, x.share(booking, 1));
        FareLattice y = new FareLattice();
        Networks.once(y, 0, 1, 2, 1, 9, 1);
        Networks.once(y, 1, 2, 4, 20, 9, 1);
        y.fare(0, 0, 2, 0, 20);
        Networks.ticketed(y, 1, -1, 1, 101);
        CHECK.same("20 by 21, rounded down", 0, y.share(0, 0));
        CHECK.same("so all of it is left", 20, y.share(0, 1));
    }

    // ---- promise 34

    private static void check() {
        DOC.in("Promise 34: check");
        DOC.asks("Checks a booking in for a leg.", () -> {
            FareLattice x = Edges.after(EdgeBookingsTest::checkable);
            x.check(0, 0);
            CHECK.same("CHECKED", 101, x.coupon(0, 0));
            CHECK.same("the other leg's is OPEN", 10100, x.coupon(0, 1));
        });
        DOC.asks("- `booking`: a booking", () -> EDGES.takes(EdgeBookingsTest::checkable, (x, b) -> x.check(b, 0), 0, 1));
        DOC.asks("- `coupon`: 0 for the first one", () ->
            EDGES.range(0, 1, INDEX, EdgeBookingsTest::checkable, (x, coupon) -> x.check(0, coupon)));
        DOC.asks("Returns how many persons are CHECKED for the leg then.", EdgeBookingsTest::countOfChecked);
        DOC.asks("Throws `IndexOutOfBoundsException` if there is no such booking or coupon", () -> {
            noBooking((x, b) -> x.check(b, 0));
            noBooking((x, b) -> x.check(b, 2));
            noCoupon((x, coupon) -> x.check(1, coupon));
            noCoupon((x, coupon) -> x.check(3, coupon));
        });
        DOC.asks("Throws `IllegalStateException` if that is not possible, as told above", EdgeBookingsTest::checksThatAreNone);
    }

    /** Two ticketed bookings, of 9 and 2 persons, for legs that depart at 36 and 39; the time is 20. */
    private static void checkable(FareLattice x) {
        Networks.daily(x, 0, 1, 12, 2, 60);
        Networks.daily(x, 1, 2, 15, 2, 60);
        x.fare(0, 0, 2, 0, 100);
        Networks.ticketed(x, 9, 3, 1, 101);
        Networks.ticketed(x, 2, -1, 1, 101);
        Networks.ticketed(x, 1, -1, 2, 102);
        x.pass(20);
    }

    private static void countOfChecked() {
        FareLattice x = Edges.after(EdgeBookingsTest::checkable);
        CHECK.same("9", 9, x.check(0, 0));
        CHECK.same("2 more", 11, x.check(1, 0));
        CHECK.same("another leg has its own", 2, x.check(1, 1));
        x.part(0, 3);
        x.cancel(1);
        CHECK.same("those that have parted are CHECKED for the first one alone", 6, x.check(0, 1));
        CHECK.same("they can be for the other one", 9, x.check(3, 1));
    }

    private static void checksThatAreNone() {
        EDGES.refused(STATE, EdgeBookingsTest::fourStates, x -> x.check(1, 0));
        EDGES.refuses(STATE, y -> {
            fourStates(y);
            y.pass(20);
        }, (x, b) -> x.check(b, 0), 0, 2, 3);
        EDGES.refuses(STATE, y -> {
            checkable(y);
            y.check(0, 0);
            y.cancelLeg(101);
        }, (x, coupon) -> x.check(0, coupon), 0, 1);
        EDGES.refused(STATE, EdgeBookingsTest::checkable, x -> x.check(2, 0), x -> x.check(2, 1));
        EDGES.refused(STATE, y -> {
            checkable(y);
            y.check(0, 0);
            y.pass(16);
        }, x -> x.check(0, 0), x -> x.check(1, 0));
    }

    // ---- promise 35

    private static void volunteer() {
        DOC.in("Promise 35: volunteer");
        DOC.asks("Lets a booking volunteer to be denied, or not any more.", () -> {
            FareLattice x = Edges.after(EdgeBookingsTest::fourStates);
            x.volunteer(0);
            x.volunteer(0);
            CHECK.isTrue("as often as it likes", x.volunteer(0));
            CHECK.isTrue("each by itself", x.volunteer(1));
        });
        DOC.asks("- `booking`: a booking", () -> {
            aBooking((x, booking) -> x.volunteer(booking) ? 1 : 0, 0, 1, 2, 3);
            EDGES.takes(EdgeBookingsTest::fortyBookings, (x, booking) -> x.volunteer(booking) ? 1 : 0, 0, 39);
        });
        DOC.asks("Returns true if it does then.", () -> {
            for (int i = 0; i < 4; i++) {
                FareLattice x = Edges.after(EdgeBookingsTest::fourStates);
                CHECK.isTrue("it does, in the state " + i, x.volunteer(i));
                CHECK.isTrue("not any more", !x.volunteer(i));
                CHECK.isTrue("it does again", x.volunteer(i));
            }
        });
        DOC.asks("Throws `IndexOutOfBoundsException` if there is no such booking", () ->
            noBooking((x, b) -> x.volunteer(b) ? 1 : 0));
    }

    public static void main(String[] args) {
        hold();
        wish();
        clear();
        wished();
        ticket();
        part();
        cancel();
        booking();
        coupon();
        share();
        check();
        volunteer();
        DOC.close();
    }
}
