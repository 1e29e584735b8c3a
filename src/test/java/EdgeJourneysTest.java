import java.util.List;

/** The document's terms on bookings, waiting and departing, sentence by sentence: a test of its own at the edges of each. */
public final class EdgeJourneysTest {
    private static final Check CHECK = new Check("EdgeJourneysTest");
    private static final Edges EDGES = new Edges(CHECK);
    private static final Sentences DOC = new Sentences(CHECK, List.of("Bookings"));
    private static final String INDEX = Edges.INDEX;
    private static final String ARGUMENT = Edges.ARGUMENT;
    private static final String STATE = Edges.STATE;

    private static final int OPEN = 0;
    private static final int CHECKED = 1;
    private static final int FLOWN = 2;
    private static final int MISSED = 3;
    private static final int MOVED = 4;
    private static final int VOID = 5;

    /** A flight 0 from 0 to 1 at 12 for 2 hours with 9 seats, on the days 0 to 20, and a fare 0 of 100 for it. */
    private static void oneFlight(FareLattice x) {
        Networks.daily(x, 0, 1, 12, 2, 9);
        x.fare(0, 0, 1, 0, 100);
    }

    private static FareLattice oneFlight() {
        return Edges.after(EdgeJourneysTest::oneFlight);
    }

    private static void states(FareLattice x, String what, int booking, int... want) {
        for (int i = 0; i < want.length; i++) {
            CHECK.same(what + ", coupon " + i + " of " + booking, want[i], x.coupon(booking, i) % 10);
        }
        CHECK.index(what + ", no more coupons of " + booking, () -> x.coupon(booking, want.length));
    }

    // ---- bookings

    private static void bookings() {
        DOC.in("Bookings");
        DOC.asks("Bookings are numbered from 0, at most 40.", EdgeJourneysTest::atMostForty);
        DOC.asks("A booking has 1 to 9 persons", () ->
            EDGES.range(1, 9, ARGUMENT, x -> {
                oneFlight(x);
                x.leg(1);
            }, (x, persons) -> x.hold(persons, -1, 1)));
        DOC.asks(", a member, 0 to 4, or none", () ->
            EDGES.range(-1, 4, INDEX, x -> {
                oneFlight(x);
                x.leg(1);
            }, (x, member) -> x.hold(1, member, 1)));
        DOC.asks(", a journey with a price (fares, taxes) for one person, and a coupon for each leg.", EdgeJourneysTest::priceAndCoupons);
        DOC.asks("It is HELD (0), TICKETED (1), LAPSED (2), or CANCELLED (3).", () -> {
            FareLattice x = oneFlight();
            Networks.draft(x, 1);
            x.hold(1, -1, 1);
            CHECK.same("HELD", 11, x.booking(0));
            x.ticket(Networks.held(x, 1, -1, 1));
            CHECK.same("TICKETED", 1011, x.booking(1));
            x.pass(1);
            CHECK.same("LAPSED", 2011, x.booking(0));
            x.cancel(1);
            CHECK.same("CANCELLED", 3011, x.booking(1));
        });
        DOC.asks("When a journey is held, its price is built for so many seats", EdgeJourneysTest::priceForSoManySeats);
        DOC.asks(", and the booking lapses if it is not ticketed until its limit: at the hour of that, ahead of departures.",
            EdgeJourneysTest::lapsesAtItsLimit);
        DOC.asks("Coupons are OPEN (0), CHECKED (1), FLOWN (2), MISSED (3), MOVED (4), VOID (5)", EdgeJourneysTest::statesOfCoupons);
        DOC.asks("; those of what lapses or is cancelled become VOID, if they are OPEN or CHECKED.", EdgeJourneysTest::voidOfWhatEnds);
        DOC.asks("A party can part: some persons become a booking of their own, with all that the other has.",
            EdgeJourneysTest::allThatTheOtherHas);
        DOC.asks("To cancel what is ticketed gives back, for each person: of each stretch of which no coupon is FLOWN or MISSED its "
            + "percentage of the amount, rounded down", EdgeJourneysTest::percentagesGivenBack);
        DOC.asks(", and the taxes that were paid at departures of legs whose coupons are OPEN, CHECKED or VOID.",
            EdgeJourneysTest::taxesGivenBack);
    }

    private static void atMostForty() {
        FareLattice x = new FareLattice();
        Networks.daily(x, 0, 1, 12, 2, 60);
        x.fare(0, 0, 1, 0, 100);
        CHECK.same("the first one", 0, Networks.held(x, 2, -1, 1));
        for (int i = 1; i < 39; i++) {
            CHECK.same("the next number", i, Networks.held(x, 1, -1, 1));
        }
        CHECK.same("the 40th, of a party", 39, x.part(0, 1));
        x.cancel(1);
        x.cancel(39);
        Networks.draft(x, 1);
        CHECK.state("a 41st is none, though some are cancelled", () -> x.hold(1, -1, 1));
        CHECK.same("the draft is as it was", 1, x.dropLegs());
        CHECK.index("it was not added", () -> x.booking(40));
        Networks.passTo(x, 0, 80);
        Networks.draft(x, 5);
        CHECK.state("though all are over", () -> x.hold(1, -1, 1));
    }

    private static void priceAndCoupons() {
        FareLattice x = new FareLattice();
        for (int i = 0; i < 4; i++) {
            x.setTax(i, 1 + i);
            Networks.daily(x, i, i + 1, 6 * i, 2, 9);
            x.fare(0, i, i + 1, i, 10 * (i + 1));
        }
        int[] legs = {1, 101, 201, 301};
        for (int count = 1; count <= 4; count++) {
            int[] some = new int[count];
            System.arraycopy(legs, 0, some, 0, count);
            int booking = Networks.held(x, 2, -1, some);
            CHECK.same(count + " coupons", 10 * count + 2, x.booking(booking));
            for (int i = 0; i < count; i++) {
                CHECK.same("the leg and bucket of " + i, 100 * legs[i] + 10 * i, x.coupon(booking, i));
            }
            int fares = 10 * count * (count + 1) / 2;
            CHECK.same("fares, and the tax where it begins, of 2", 2 * (fares + 1), x.ticket(booking));
        }
    }

    private static void priceForSoManySeats() {
        for (int persons = 1; persons <= 9; persons++) {
            FareLattice x = oneFlight();
            x.fare(0, 0, 1, 1, 50);
            x.fare(0, 0, 1, 2, 20);
            x.limit(0, 1, 6);
            x.limit(0, 2, 3);
            int bucket = persons <= 3 ? 2 : persons <= 6 ? 1 : 0;
            int amount = persons <= 3 ? 20 : persons <= 6 ? 50 : 100;
            int booking = Networks.held(x, persons, -1, 1);
            CHECK.same("the bucket for " + persons, 100 + 10 * bucket, x.coupon(booking, 0));
            CHECK.same("the fare for " + persons, persons * amount, x.ticket(booking));
        }
    }

    private static void lapsesAtItsLimit() {
        FareLattice x = oneFlight();
        x.limit(0, 0, 1);
        Networks.draft(x, 1);
        x.hold(1, -1, 36);
        x.pass(35);
        CHECK.same("HELD an hour ahead", 11, x.booking(0));
        CHECK.same("its seat is sold", 0, x.open(1, 0));
        FareLattice y = oneFlight();
        Networks.draft(y, 1);
        y.hold(1, -1, 36);
        y.pass(35);
        y.ticket(0);
        y.pass(1);
        CHECK.same("what was ticketed an hour ahead stays", 1011, y.booking(0));
        CHECK.same("it has missed its leg", 103, y.coupon(0, 0));
        x.pass(1);
        CHECK.same("LAPSED at its limit", 2011, x.booking(0));
        CHECK.same("ahead of the departure at that hour, so it is void", 105, x.coupon(0, 0));
        FareLattice z = oneFlight();
        Networks.draft(z, 1);
        z.hold(1, -1, 37);
        z.pass(36);
        CHECK.same("HELD at the departure: not touched", 100, z.coupon(0, 0));
        z.pass(1);
        CHECK.same("LAPSED an hour later", 105, z.coupon(0, 0));
    }

    /** A booking 0 whose coupons are FLOWN, MISSED, MOVED, CHECKED and OPEN; the time is 39 and its legs are as told there. */
    private static FareLattice allStates() {
        FareLattice x = new FareLattice();
        Networks.once(x, 0, 1, 8, 2, 9, 1);
        Networks.once(x, 1, 2, 11, 2, 9, 1);
        Networks.once(x, 2, 3, 16, 2, 9, 1);
        Networks.once(x, 2, 3, 18, 2, 9, 1);
        Networks.once(x, 3, 4, 22, 2, 9, 1);
        x.fare(0, 0, 1, 1, 11);
        x.fare(0, 1, 2, 1, 13);
        x.fare(0, 2, 3, 1, 15);
        x.fare(0, 3, 4, 1, 17);
        for (int i = 0; i < 4; i++) {
            x.setTax(i, 100);
        }
        Networks.ticketed(x, 2, 1, 1, 101, 201, 401);
        x.pass(31);
        x.check(0, 0);
        x.pass(8);
        x.cancelLeg(201);
        x.repair();
        x.check(0, 3);
        return x;
    }

    private static void statesOfCoupons() {
        FareLattice x = allStates();
        states(x, "each of them", 0, FLOWN, MISSED, MOVED, CHECKED, OPEN);
        CHECK.same("in its bucket", 112, x.coupon(0, 0));
        x.cancelLeg(401);
        CHECK.same("one has no way", 1, x.repair());
        states(x, "and the last one", 0, FLOWN, MISSED, MOVED, CHECKED, VOID);
        CHECK.same("the whole coupon", 40115, x.coupon(0, 4));
    }

    private static void voidOfWhatEnds() {
        FareLattice x = allStates();
        x.cancel(0);
        states(x, "CANCELLED", 0, FLOWN, MISSED, MOVED, VOID, VOID);
        FareLattice y = oneFlight();
        Networks.draft(y, 1);
        y.hold(1, -1, 40);
        Networks.draft(y, 2);
        y.hold(1, -1, 41);
        Networks.held(y, 1, -1, 2);
        y.pass(40);
        states(y, "LAPSED, though its leg has departed", 0, VOID);
        states(y, "an hour ahead of its limit", 1, OPEN);
        y.cancelLeg(2);
        states(y, "CANCELLED with its leg", 2, VOID);
    }

    private static void allThatTheOtherHas() {
        FareLattice x = allStates();
        x.volunteer(0);
        CHECK.same("the new one", 1, x.part(0, 1));
        CHECK.same("its state and coupons", 1051, x.booking(1));
        for (int i = 0; i < 5; i++) {
            CHECK.same("the same coupon " + i, x.coupon(0, i), x.coupon(1, i));
            CHECK.same("the same share " + i, x.share(0, i), x.share(1, i));
        }
        CHECK.isTrue("it volunteers, so it does not any more", !x.volunteer(1));
        CHECK.isTrue("the other one has its own", !x.volunteer(0));
        int points = x.points(1);
        x.pass(3);
        CHECK.same("both are of the member", points + 2 * 20, x.points(1));
        CHECK.same("both owe the shares", 2 * 11 + 2 * 15, x.owed(0, 0));
        CHECK.same("each is given back the same", x.cancel(0), x.cancel(1));
        FareLattice y = oneFlight();
        Networks.draft(y, 1);
        y.hold(9, 2, 5);
        y.part(0, 8);
        y.part(1, 1);
        y.ticket(1);
        y.pass(5);
        CHECK.same("the limit of the first", 2011, y.booking(0));
        CHECK.same("the second was ticketed by itself", 1017, y.booking(1));
        CHECK.same("the third has the same limit", 2011, y.booking(2));
    }

    private static void percentagesGivenBack() {
        int[] percents = {0, 1, 49, 50, 99, 100};
        for (int percent : percents) {
            FareLattice x = new FareLattice();
            Networks.daily(x, 0, 1, 8, 2, 9);
            Networks.daily(x, 1, 2, 12, 2, 9);
            x.fare(0, 0, 1, 0, 199);
            x.fare(0, 1, 2, 0, 99);
            x.back(0, percent);
            x.back(1, 50);
            int one = 199 * percent / 100 + 49;
            CHECK.same(percent + " percent for 1", one, x.cancel(Networks.ticketed(x, 1, -1, 1, 101)));
            CHECK.same(percent + " percent for 9", 9 * one, x.cancel(Networks.ticketed(x, 9, -1, 1, 101)));
        }
        FareLattice x = new FareLattice();
        Networks.daily(x, 0, 1, 8, 2, 9);
        Networks.daily(x, 1, 2, 12, 2, 9);
        Networks.daily(x, 2, 3, 16, 2, 9);
        x.fare(0, 0, 2, 0, 100);
        x.fare(0, 2, 3, 0, 10);
        int flown = Networks.ticketed(x, 1, -1, 1, 101, 201);
        int missed = Networks.ticketed(x, 1, -1, 1, 101, 201);
        int early = Networks.ticketed(x, 1, -1, 1, 101, 201);
        x.pass(31);
        x.check(flown, 0);
        CHECK.same("an hour ahead: all stretches", 55, x.cancel(early));
        x.pass(1);
        CHECK.same("none of the stretch of which one is FLOWN", 5, x.cancel(flown));
        CHECK.same("none of that of which one is MISSED", 5, x.cancel(missed));
        FareLattice y = allStates();
        CHECK.same("MOVED and CHECKED, and OPEN, count as not begun", 2 * (7 + 8), y.cancel(0));
    }

    private static void taxesGivenBack() {
        FareLattice x = new FareLattice();
        for (int i = 0; i < 3; i++) {
            x.setTax(i, 1 << 2 * i);
            Networks.daily(x, i, i + 1, 8 * i, 2, 9);
            x.fare(0, i, i + 1, 0, 1);
            x.back(i, 0);
        }
        int open = Networks.ticketed(x, 2, -1, 1, 101, 201);
        int checked = Networks.ticketed(x, 1, -1, 1, 101, 201);
        int flown = Networks.ticketed(x, 1, -1, 1, 101, 201);
        int missed = Networks.ticketed(x, 1, -1, 1, 101, 201);
        x.setTax(0, 400);
        x.setTax(1, 400);
        x.pass(23);
        x.check(checked, 0);
        x.check(flown, 0);
        CHECK.same("OPEN, as they were paid, for 2", 2 * (1 + 4 + 16), x.cancel(open));
        CHECK.same("CHECKED", 1 + 4 + 16, x.cancel(checked));
        x.pass(1);
        CHECK.same("not of what is FLOWN", 4 + 16, x.cancel(flown));
        x.cancelLeg(101);
        CHECK.same("a leg has no other way", 1, x.repair());
        CHECK.same("of what is VOID; not of what is MISSED", 4 + 16, x.cancel(missed));
        FareLattice y = new FareLattice();
        y.setTax(0, 7);
        Networks.once(y, 0, 1, 8, 2, 9, 1);
        Networks.once(y, 0, 1, 12, 2, 9, 1);
        y.fare(0, 0, 1, 0, 1);
        Networks.ticketed(y, 1, -1, 1);
        y.cancelLeg(1);
        y.repair();
        CHECK.same("of what is MOVED once, with what is behind it", 7, y.cancel(0));
    }

    // ---- waiting

    private static void waiting() {
        DOC.names("Waiting, checking in, departing");
        DOC.asks("Who waits for a journey is told as a wish, at most 20, with persons and a member or none.",
            EdgeJourneysTest::twentyWishes);
        DOC.asks("When the list is cleared, wishes that wait are gone through, those of members of higher tiers first (none counting "
            + "as 0)", EdgeJourneysTest::higherTiersFirst);
        DOC.asks(", of the same tier by their numbers", () -> {
            FareLattice x = oneFlight();
            x.limit(0, 0, 3);
            for (int i = 0; i < 5; i++) {
                Networks.draft(x, 1);
                x.wish(1, i - 1);
            }
            CHECK.same("three seats", 3, x.clear());
            for (int i = 0; i < 5; i++) {
                CHECK.same("wish " + i, i < 3 ? i : -1, x.wished(i));
            }
        });
        DOC.asks("(who is no member has the tier 0, here and elsewhere)", EdgeJourneysTest::noMemberHasTheTierZero);
        DOC.asks(": if a price can be built for all persons now", EdgeJourneysTest::priceForAllPersonsNow);
        DOC.asks(", the journey is held for 24 hours", () -> {
            FareLattice x = oneFlight();
            x.pass(3);
            Networks.draft(x, 9);
            x.wish(1, -1);
            x.clear();
            CHECK.same("HELD", 11, x.booking(0));
            x.pass(23);
            CHECK.same("23 hours", 11, x.booking(0));
            x.pass(1);
            CHECK.same("24 hours", 2011, x.booking(0));
        });
        DOC.asks("(and others behind it find fewer seats)", () -> {
            FareLattice x = oneFlight();
            int[] persons = {5, 5, 4, 1};
            for (int party : persons) {
                Networks.draft(x, 1);
                x.wish(party, -1);
            }
            CHECK.same("5 and 4 of 9", 2, x.clear());
            CHECK.same("the first", 0, x.wished(0));
            CHECK.same("5 of the 4 that are left", -1, x.wished(1));
            CHECK.same("4 of them", 1, x.wished(2));
            CHECK.same("none is left", -1, x.wished(3));
        });
        DOC.asks("; otherwise it goes on waiting", () -> {
            FareLattice x = oneFlight();
            Networks.held(x, 9, -1, 5);
            Networks.draft(x, 5);
            x.wish(1, -1);
            for (int i = 0; i < 3; i++) {
                CHECK.same("no seat", 0, x.clear());
                CHECK.same("it waits", -1, x.wished(0));
                x.pass(20);
            }
            x.cancel(0);
            CHECK.same("9 seats", 1, x.clear());
            CHECK.same("it is held", 1, x.wished(0));
        });
        DOC.asks("; it waits no more when the first of its legs has departed.", EdgeJourneysTest::waitsNoMore);
    }

    private static void twentyWishes() {
        FareLattice x = oneFlight();
        for (int i = 0; i < 20; i++) {
            Networks.draft(x, 1);
            CHECK.same("the next number", i, x.wish(i < 10 ? 9 : 1, i % 6 - 1));
        }
        Networks.draft(x, 1);
        CHECK.state("a 21st is none", () -> x.wish(1, -1));
        CHECK.index("it was not added", () -> x.wished(20));
        x.clear();
        x.pass(100);
        CHECK.state("though all are over", () -> x.wish(1, -1));
    }

    /** Members 0 to 4 with 0, 490, 500, 1000 and 1500 points, by legs of flights 0 to 2; the time is 44 then. */
    private static FareLattice tiers() {
        FareLattice x = new FareLattice();
        Networks.once(x, 4, 5, 0, 20, 60, 1);
        Networks.once(x, 4, 5, 0, 7, 60, 1);
        Networks.once(x, 4, 5, 0, 10, 60, 1);
        x.fare(-1, 4, 5, 0, 10);
        int[][] parties = {{7, 1, 101}, {5, 2, 201}, {5, 3, 1}, {5, 4, 1}, {5, 4, 201}};
        for (int[] party : parties) {
            Networks.ticketed(x, party[0], party[1], party[2]);
        }
        x.pass(1);
        for (int i = 0; i < parties.length; i++) {
            x.check(i, 0);
        }
        x.pass(43);
        int[] points = {0, 490, 500, 1000, 1500};
        for (int member = 0; member < 5; member++) {
            CHECK.same("the points of " + member, points[member], x.points(member));
        }
        return x;
    }

    /** The members in the order of their tiers, of the same tier as they are asked; -1 is none. */
    private static final int[] ASKED = {-1, 0, 1, 2, 3, 4};
    private static final int[] BY_TIERS = {5, 4, 3, 0, 1, 2};

    private static void higherTiersFirst() {
        FareLattice x = tiers();
        Networks.daily(x, 0, 1, 12, 2, 1);
        x.fare(0, 0, 1, 0, 10);
        for (int member : ASKED) {
            Networks.draft(x, 305);
            x.wish(1, member);
        }
        for (int i = 0; i < ASKED.length; i++) {
            CHECK.same("one seat", 1, x.clear());
            CHECK.same("the next one", 5 + i, x.wished(BY_TIERS[i]));
            x.cancel(5 + i);
        }
    }

    private static void noMemberHasTheTierZero() {
        FareLattice x = tiers();
        Networks.daily(x, 0, 1, 12, 2, 1);
        Networks.limits(x, 3, 11);
        x.fare(0, 0, 1, 0, 10);
        int[] members = {-1, 0, 1, -1};
        for (int member : members) {
            Networks.draft(x, 303);
            x.wish(1, member);
        }
        CHECK.same("all four", 4, x.clear());
        for (int i = 0; i < 4; i++) {
            CHECK.same("waiting: by numbers alone", 5 + i, x.wished(i));
            x.ticket(5 + i);
        }
        x.pass(35);
        for (int i = 0; i < 4; i++) {
            x.check(5 + i, 0);
        }
        x.pass(5);
        for (int i = 0; i < 4; i++) {
            CHECK.same("departing: by numbers alone", i == 0 ? FLOWN : MOVED, x.coupon(5 + i, 0) % 10);
        }
    }

    private static void priceForAllPersonsNow() {
        FareLattice x = oneFlight();
        Networks.held(x, 1, -1, 1);
        for (int persons = 9; persons >= 8; persons--) {
            Networks.draft(x, 1);
            x.wish(persons, -1);
        }
        CHECK.same("8 of 8, not 9", 1, x.clear());
        CHECK.same("9 wait", -1, x.wished(0));
        CHECK.same("8 are held", 18, x.booking(x.wished(1)));
        FareLattice y = oneFlight();
        Networks.draft(y, 3);
        y.wish(1, -1);
        y.fare(0, 0, 1, 1, 60);
        y.setTax(0, 5);
        y.clear();
        CHECK.same("the price of now", 65, y.ticket(0));
        FareLattice z = oneFlight();
        z.rules(0, -1, 61, 2, false, 0, false);
        Networks.draft(z, 3);
        z.wish(1, -1);
        z.pass(37);
        CHECK.same("now it is too late for its fare", 0, z.clear());
        CHECK.same("it goes on waiting", -1, z.wished(0));
    }

    private static void waitsNoMore() {
        FareLattice x = oneFlight();
        Networks.daily(x, 1, 2, 15, 2, 9);
        Networks.daily(x, 0, 1, 10, 2, 9);
        Networks.draft(x, 201, 101);
        x.wish(1, -1);
        Networks.draft(x, 1, 101);
        x.wish(1, -1);
        x.cancelLeg(101);
        x.delay(1, 8);
        x.pass(33);
        CHECK.same("an hour ahead", -1, x.wished(0));
        x.pass(1);
        CHECK.same("departed", -2, x.wished(0));
        CHECK.same("the other one's leg is delayed", -1, x.wished(1));
        x.pass(9);
        CHECK.same("an hour ahead of that", -1, x.wished(1));
        x.pass(1);
        CHECK.same("departed, too", -2, x.wished(1));
        CHECK.same("none is held", 0, x.clear());
    }

    // ---- checking in

    private static void checking() {
        DOC.asks("Coupons are checked in, in the last 24 hours ahead of the departure, that itself not", EdgeJourneysTest::lastDay);
        DOC.asks(", if they are OPEN", () -> {
            FareLattice x = allStates();
            for (int i = 0; i < 4; i++) {
                int coupon = i;
                CHECK.state("coupon " + i + ", which is not", () -> x.check(0, coupon));
            }
            CHECK.same("coupon 4, which is", 2, x.check(0, 4));
            FareLattice y = allStates();
            y.cancelLeg(401);
            y.repair();
            CHECK.state("one that is VOID", () -> y.check(0, 4));
        });
        DOC.asks(", of what is TICKETED", () ->
            EDGES.refuses(STATE, x -> {
                oneFlight(x);
                Networks.draft(x, 1);
                x.hold(1, -1, 20);
                Networks.held(x, 1, -1, 1);
                x.cancel(Networks.ticketed(x, 1, -1, 1));
                x.pass(20);
            }, (x, booking) -> x.check(booking, 0), 0, 1, 2));
        DOC.asks(", and if the leg is not cancelled.", () -> {
            EDGES.refused(STATE, x -> {
                oneFlight(x);
                Networks.ticketed(x, 1, -1, 1);
                x.pass(20);
                x.cancelLeg(1);
            }, x -> x.check(0, 0));
            EDGES.refused(STATE, x -> {
                oneFlight(x);
                Networks.ticketed(x, 1, -1, 1);
                x.pass(20);
                x.delay(1, 8);
                x.delay(1, 1);
            }, x -> x.check(0, 0));
        });
    }

    private static void lastDay() {
        for (int delay = 0; delay <= 8; delay += 4) {
            for (int ahead = 26; ahead >= -1; ahead--) {
                FareLattice x = oneFlight();
                Networks.ticketed(x, 1, -1, 1);
                Networks.held(x, 1, -1, 1);
                if (delay > 0) {
                    x.delay(1, delay);
                }
                x.pass(36 + delay - ahead);
                if (ahead >= 1 && ahead <= 24) {
                    CHECK.same(ahead + " hours ahead, delayed by " + delay, 1, x.check(0, 0));
                } else {
                    CHECK.state(ahead + " hours ahead, delayed by " + delay, () -> x.check(0, 0));
                }
            }
        }
        FareLattice x = oneFlight();
        Networks.held(x, 1, -1, 1);
        x.pass(37);
        x.ticket(0);
        CHECK.state("OPEN and TICKETED, but departed", () -> x.check(0, 0));
    }

    // ---- departing

    private static void departing() {
        DOC.asks("When a leg departs that is not cancelled: if more persons are CHECKED for it than it has seats, bookings are "
            + "denied, until those that are left fit", EdgeJourneysTest::deniedUntilTheyFit);
        DOC.asks(", those first that volunteer", EdgeJourneysTest::volunteersFirst);
        DOC.asks(", of these and of the others those with lower tiers", EdgeJourneysTest::lowerTiersFirst);
        DOC.asks(", then those with greater numbers", EdgeJourneysTest::greaterNumbersFirst);
        DOC.asks("; so many persons count as denied.", () -> {
            FareLattice x = overbooked(5, 4, 3, 2);
            x.pass(1);
            CHECK.same("5 of 14, by 2 and 3", 5, x.denied());
            FareLattice y = overbooked(1, 1, 1, 9);
            y.pass(1);
            CHECK.same("3 of 12, by 9", 9, y.denied());
            FareLattice z = overbooked(9);
            z.pass(1);
            CHECK.same("0 of 9", 0, z.denied());
        });
        DOC.asks("All others that are CHECKED become FLOWN; those that are OPEN, of what is TICKETED, MISSED (held ones are not "
            + "touched).", EdgeJourneysTest::flownAndMissed);
        DOC.asks("Then those that were denied are moved on, in that order.", EdgeJourneysTest::deniedInOrder);
        DOC.asks("A member has points: for each person and coupon that is FLOWN 10 for each hour that the leg is long.",
            EdgeJourneysTest::pointsOfHours);
        DOC.asks("The tier is the points divided by 500, rounded down, at most 3.", EdgeJourneysTest::tierOfPoints);
        DOC.asks("When hours pass, for each: the time becomes 1 more; what is held lapses, by rising numbers; then legs depart whose "
            + "hour it is, by rising numbers.", EdgeJourneysTest::orderOfAnHour);
    }

    /** Parties of no member that are CHECKED for the leg 1 with 9 seats, an hour ahead of its departure. */
    private static FareLattice overbooked(int... parties) {
        FareLattice x = oneFlight();
        Networks.limits(x, 0, 19);
        for (int persons : parties) {
            Networks.ticketed(x, persons, -1, 1);
        }
        x.pass(35);
        for (int i = 0; i < parties.length; i++) {
            x.check(i, 0);
        }
        return x;
    }

    private static void deniedUntilTheyFit() {
        FareLattice x = overbooked(5, 4);
        x.pass(1);
        states(x, "just as many as seats", 0, FLOWN);
        states(x, "just as many as seats", 1, FLOWN);
        FareLattice y = overbooked(5, 4, 1);
        y.pass(1);
        states(y, "one too many", 1, FLOWN);
        states(y, "one too many", 2, MOVED, OPEN);
        FareLattice z = overbooked(4, 3, 6, 1);
        z.pass(1);
        states(z, "5 too many: 1 is not enough", 3, MOVED, OPEN);
        states(z, "5 too many: with 6 it is", 2, MOVED, OPEN);
        states(z, "5 too many: those that are left fit", 1, FLOWN);
        FareLattice v = overbooked(5, 4, 1);
        v.cancelLeg(1);
        v.pass(1);
        CHECK.same("a cancelled one does not depart", 0, v.denied());
        states(v, "nobody is denied", 2, CHECKED);
        FareLattice w = oneFlight();
        Networks.limits(w, 0, 19);
        Networks.ticketed(w, 9, -1, 1);
        Networks.ticketed(w, 9, -1, 1);
        w.pass(35);
        w.check(0, 0);
        w.pass(1);
        CHECK.same("who is not CHECKED is none of them", 0, w.denied());
        states(w, "but has missed it", 1, MISSED);
    }

    private static void volunteersFirst() {
        FareLattice x = overbooked(3, 3, 3, 3);
        x.volunteer(1);
        x.volunteer(3);
        x.volunteer(3);
        x.pass(1);
        states(x, "who volunteers", 1, MOVED, OPEN);
        states(x, "who does not any more", 3, FLOWN);
        CHECK.same("3 persons", 3, x.denied());
        FareLattice y = overbooked(9);
        y.volunteer(0);
        y.pass(1);
        states(y, "a volunteer who is not needed", 0, FLOWN);
        FareLattice z = overbooked(3, 3, 3, 3, 3);
        z.volunteer(0);
        z.pass(1);
        states(z, "who volunteers, and one more", 0, MOVED, OPEN);
        states(z, "one of the others", 4, MOVED, OPEN);
        states(z, "not two of them", 3, FLOWN);
    }

    /** Who is denied of the members of tiers 0, 0, 0, 1, 2 and 3, in this order, when the leg has as many seats too few. */
    private static void lowerTiersFirst() {
        for (int volunteers = 0; volunteers < 2; volunteers++) {
            for (int denied = 0; denied <= 6; denied++) {
                FareLattice x = tiers();
                x.flight(0, 0, 1, 12, 2, 7 - denied);
                x.days(3, 2, 2, 127);
                Networks.limits(x, 3, 17 - denied);
                x.fare(0, 0, 1, 0, 10);
                for (int i = 0; i < 6; i++) {
                    Networks.ticketed(x, 1, ASKED[5 - i], 302);
                    x.check(5 + i, 0);
                    for (int k = 0; k < volunteers; k++) {
                        x.volunteer(5 + i);
                    }
                }
                Networks.ticketed(x, 1, 4, 302);
                x.check(11, 0);
                x.pass(16);
                CHECK.same("so many", denied, x.denied());
                int[] order = {10, 9, 8, 7, 6, volunteers == 1 ? 5 : 11};
                for (int i = 0; i < 6; i++) {
                    CHECK.same(denied + " denied, booking " + order[i], i < denied ? VOID : FLOWN, x.coupon(order[i], 0) % 10);
                }
            }
        }
    }

    private static void greaterNumbersFirst() {
        for (int denied = 0; denied <= 4; denied++) {
            FareLattice x = oneFlight();
            x.flight(0, 0, 1, 12, 2, 5 - denied);
            x.days(1, 1, 1, 127);
            Networks.limits(x, 1, 5);
            for (int i = 0; i < 5; i++) {
                Networks.ticketed(x, 1, i == 2 ? -1 : i, 101);
            }
            x.pass(35);
            for (int i = 0; i < 5; i++) {
                x.check(i, 0);
            }
            x.pass(1);
            for (int i = 0; i < 5; i++) {
                CHECK.same(denied + " denied, booking " + i, i >= 5 - denied ? MOVED : FLOWN, x.coupon(i, 0) % 10);
            }
        }
    }

    private static void flownAndMissed() {
        FareLattice x = oneFlight();
        int flown = Networks.ticketed(x, 1, -1, 1);
        int missed = Networks.ticketed(x, 1, -1, 1);
        int held = Networks.held(x, 1, -1, 1);
        int other = Networks.ticketed(x, 1, -1, 2);
        int cancelled = Networks.ticketed(x, 1, -1, 1);
        x.pass(35);
        x.check(flown, 0);
        x.check(cancelled, 0);
        x.cancel(cancelled);
        x.pass(1);
        states(x, "CHECKED", flown, FLOWN);
        states(x, "OPEN", missed, MISSED);
        states(x, "HELD", held, OPEN);
        states(x, "for another day", other, OPEN);
        states(x, "CANCELLED", cancelled, VOID);
        CHECK.same("HELD still", 11, x.booking(held));
        x.ticket(held);
        x.pass(23);
        states(x, "ticketed behind the departure", held, OPEN);
    }

    private static void deniedInOrder() {
        FareLattice x = oneFlight();
        Networks.once(x, 0, 1, 13, 2, 1, 1);
        Networks.once(x, 0, 1, 14, 2, 1, 1);
        Networks.once(x, 0, 1, 15, 2, 1, 1);
        Networks.limits(x, 0, 13);
        for (int i = 0; i < 12; i++) {
            Networks.ticketed(x, 1, -1, 1);
        }
        x.pass(35);
        for (int i = 0; i < 12; i++) {
            x.check(i, 0);
        }
        x.volunteer(4);
        x.pass(1);
        CHECK.same("the volunteer first", 10100, x.coupon(4, 1));
        CHECK.same("then the greatest number", 20100, x.coupon(11, 1));
        CHECK.same("then the next one", 30100, x.coupon(10, 1));
        states(x, "all others have flown", 9, FLOWN);
        deniedTwice();
        FareLattice y = overbooked(9, 1);
        y.cancelLeg(2);
        y.cancelLeg(3);
        y.pass(1);
        states(y, "who has no way is VOID", 1, VOID);
    }

    /** Who was denied once has no place ahead of others the next time: the order is that of the second denial alone. */
    private static void deniedTwice() {
        FareLattice x = new FareLattice();
        Networks.once(x, 0, 1, 12, 2, 1, 1);
        Networks.once(x, 0, 1, 13, 2, 1, 1);
        Networks.once(x, 0, 1, 14, 2, 1, 1);
        Networks.once(x, 0, 1, 15, 2, 1, 1);
        Networks.limits(x, 0, 2);
        Networks.limits(x, 1, 3);
        x.fare(0, 0, 1, 0, 10);
        int[] legs = {1, 1, 101, 101};
        for (int leg : legs) {
            Networks.ticketed(x, 1, -1, leg);
        }
        x.pass(35);
        for (int i = 0; i < 4; i++) {
            x.check(i, 0);
        }
        x.volunteer(2);
        x.pass(1);
        CHECK.same("moved on to the next leg", 10100, x.coupon(1, 1));
        x.check(1, 1);
        x.pass(1);
        CHECK.same("3 for 1 seat, and 1 before", 3, x.denied());
        CHECK.same("the volunteer of these first", 20100, x.coupon(2, 1));
        CHECK.same("then the greater number", 30100, x.coupon(3, 1));
        states(x, "who was denied before flies", 1, MOVED, FLOWN);
        FareLattice y = Edges.after(EdgeJourneysTest::deniedOnceOfThree);
        y.pass(1);
        CHECK.same("the greater number first", 20100, y.coupon(2, 1));
        CHECK.same("then who was denied before", 30100, y.coupon(1, 2));
    }

    /** The booking 1 was denied for the leg 1, and is CHECKED for the leg 101 then, as 0 and 2 are; it has one seat. */
    private static void deniedOnceOfThree(FareLattice x) {
        Networks.once(x, 0, 1, 12, 2, 1, 1);
        Networks.once(x, 0, 1, 13, 2, 1, 1);
        Networks.once(x, 0, 1, 14, 2, 1, 1);
        Networks.once(x, 0, 1, 15, 2, 1, 1);
        Networks.limits(x, 0, 2);
        Networks.limits(x, 1, 3);
        x.fare(0, 0, 1, 0, 10);
        int[] legs = {101, 1, 101, 1};
        for (int leg : legs) {
            Networks.ticketed(x, 1, -1, leg);
        }
        x.volunteer(1);
        x.pass(35);
        for (int i = 0; i < 4; i++) {
            x.check(i, 0);
        }
        x.pass(1);
        x.volunteer(1);
        x.check(1, 1);
    }

    private static void pointsOfHours() {
        int[] lengths = {1, 20};
        int[] persons = {1, 9};
        for (int length : lengths) {
            for (int party : persons) {
                FareLattice x = new FareLattice();
                Networks.daily(x, 0, 1, 12, length, 9);
                x.fare(0, 0, 1, 0, 100);
                Networks.ticketed(x, party, 4, 1);
                x.delay(1, 8);
                x.pass(43);
                x.check(0, 0);
                CHECK.same("CHECKED", 0, x.points(4));
                x.pass(1);
                CHECK.same("FLOWN: " + party + " for " + length + " hours", 10 * length * party, x.points(4));
            }
        }
        FareLattice x = oneFlight();
        Networks.daily(x, 1, 2, 15, 3, 9);
        x.fare(0, 0, 2, 0, 10);
        Networks.ticketed(x, 2, 0, 1, 101);
        Networks.ticketed(x, 1, 0, 1, 101);
        Networks.ticketed(x, 3, -1, 1, 101);
        x.pass(35);
        x.check(0, 0);
        x.check(0, 1);
        x.check(1, 1);
        x.check(2, 0);
        x.pass(1);
        CHECK.same("the first coupon of one; the other one has missed it", 40, x.points(0));
        x.pass(3);
        CHECK.same("the second of both", 40 + 60 + 30, x.points(0));
        CHECK.same("none of no member", 0, x.points(1) + x.points(2) + x.points(3) + x.points(4));
    }

    /** Two members with points above and below an edge wait for a seat: the greater number wins by a higher tier alone. */
    private static void tierOfPoints() {
        int[][] edges = {{0, 490, 0}, {490, 500, 1}, {500, 990, 0}, {990, 1000, 1}, {1000, 1490, 0}, {1490, 1500, 1},
            {1500, 2000, 0}, {1500, 3000, 0}};
        for (int[] edge : edges) {
            FareLattice x = new FareLattice();
            earn(x, 0, edge[0]);
            earn(x, 1, edge[1]);
            fly(x);
            String what = edge[0] + " and " + edge[1];
            CHECK.same("points, " + what, edge[0], x.points(0));
            CHECK.same("points of the other one, " + what, edge[1], x.points(1));
            int leg = Networks.once(x, 0, 1, 12, 2, 1, 9);
            x.fare(0, 0, 1, 0, 10);
            for (int member = 0; member < 2; member++) {
                Networks.draft(x, leg);
                x.wish(1, member);
            }
            CHECK.same("one seat, " + what, 1, x.clear());
            CHECK.same("the second goes ahead, " + what, edge[2], x.wished(1) >= 0 ? 1 : 0);
        }
    }

    /** Tickets so many points, in tens, for a member: in flights of 20 hours or fewer and parties of 9 or fewer. */
    private static void earn(FareLattice x, int member, int points) {
        if (x.fare(-1, 4, 5, 0, 10) > 1) {
            throw new IllegalStateException("too many members");
        }
        int left = points / 10;
        while (left > 0) {
            int hours = Math.min(20, left);
            int persons = Math.min(9, left / hours);
            Networks.ticketed(x, persons, member, Networks.once(x, 4, 5, 0, hours, 9, 1));
            left -= hours * persons;
        }
    }

    private static void fly(FareLattice x) {
        x.pass(1);
        for (int i = 0; !Check.told(bookingOf(x, i)).startsWith("throws"); i++) {
            x.check(i, 0);
        }
        x.pass(23);
    }

    private static Check.Call bookingOf(FareLattice x, int booking) {
        return () -> x.booking(booking);
    }

    private static void orderOfAnHour() {
        FareLattice x = oneFlight();
        x.limit(0, 0, 1);
        Networks.draft(x, 1);
        x.hold(1, -1, 36);
        x.pass(35);
        x.pass(1);
        CHECK.same("what is held lapses ahead of the departure", 105, x.coupon(0, 0));
        CHECK.same("the time is that of both", 37, x.pass(1));
        // the denied of leg 1 take the seat of leg 301 ahead of those of leg 101, which departs at the same hour
        FareLattice y = new FareLattice();
        for (int i = 0; i < 2; i++) {
            Networks.once(y, 0, 1, 12, 2, 1, 1);
            Networks.limits(y, i, 2);
        }
        Networks.once(y, 0, 1, 12, 2, 1, 0);
        Networks.once(y, 0, 1, 13, 2, 1, 1);
        y.fare(0, 0, 1, 0, 10);
        int[] legs = {101, 101, 1, 1};
        for (int leg : legs) {
            Networks.ticketed(y, 1, -1, leg);
        }
        y.pass(35);
        for (int i = 0; i < 4; i++) {
            y.check(i, 0);
        }
        y.pass(1);
        CHECK.same("the leg 1 departs first", 30100, y.coupon(3, 1));
        states(y, "of the leg 101 one has no way", 1, VOID);
        FareLattice z = oneFlight();
        Networks.ticketed(z, 1, -1, 1);
        Networks.ticketed(z, 1, -1, 2);
        z.pass(60);
        states(z, "each hour by itself, within one call", 0, MISSED);
        states(z, "and the last one", 1, MISSED);
    }

    public static void main(String[] args) {
        bookings();
        waiting();
        checking();
        departing();
        DOC.close();
    }
}
