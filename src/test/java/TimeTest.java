/** Promises 36 to 39: hours that pass, departures with too many persons, points and what is owed. */
public final class TimeTest {
    private static final Check CHECK = new Check("TimeTest");

    private static void passes() {
        FareLattice x = new FareLattice();
        CHECK.argument("0 hours", () -> x.pass(0));
        CHECK.argument("-1 hours", () -> x.pass(-1));
        CHECK.argument("101 hours", () -> x.pass(101));
        CHECK.same("1 hour", 1, x.pass(1));
        CHECK.same("100 hours", 101, x.pass(100));
        CHECK.same("without flights it goes on", 201, x.pass(100));
    }

    private static void flownAndMissed() {
        FareLattice x = new FareLattice();
        Networks.daily(x, 0, 1, 12, 5, 9);
        x.fare(0, 0, 1, 0, 70);
        int flown = Networks.ticketed(x, 2, 1, 1);
        int missed = Networks.ticketed(x, 3, 1, 1);
        int held = Networks.held(x, 1, 1, 1);
        int none = Networks.ticketed(x, 1, -1, 1);
        int cancelled = Networks.ticketed(x, 1, 1, 1);
        x.cancel(cancelled);
        x.pass(35);
        x.check(flown, 0);
        x.check(none, 0);
        CHECK.same("nobody has flown yet", 0, x.points(1));
        x.pass(1);
        CHECK.same("FLOWN", 102, x.coupon(flown, 0));
        CHECK.same("FLOWN without a member", 102, x.coupon(none, 0));
        CHECK.same("MISSED", 103, x.coupon(missed, 0));
        CHECK.same("HELD is not touched", 100, x.coupon(held, 0));
        CHECK.same("CANCELLED is void", 105, x.coupon(cancelled, 0));
        CHECK.same("10 for each hour, of 2 persons", 100, x.points(1));
        CHECK.same("the carrier earns the shares of 3", 210, x.owed(0, 0));
        x.cancel(flown);
        CHECK.same("points stay", 100, x.points(1));
        CHECK.same("what is earned stays", 210, x.owed(0, 0));
        CHECK.same("nobody was denied", 0, x.denied());
        CHECK.index("member -1", () -> x.points(-1));
        CHECK.index("member 5", () -> x.points(5));
        CHECK.index("seller -1", () -> x.owed(-1, 0));
        CHECK.index("seller 3", () -> x.owed(3, 0));
        CHECK.index("carrier -1", () -> x.owed(0, -1));
        CHECK.index("carrier 3", () -> x.owed(0, 3));
    }

    private static void delayedDepartures() {
        FareLattice x = new FareLattice();
        Networks.daily(x, 0, 1, 12, 5, 9);
        x.fare(0, 0, 1, 0, 70);
        int delayed = Networks.ticketed(x, 1, 0, 1);
        int cancelled = Networks.ticketed(x, 1, 1, 2);
        x.delay(1, 3);
        x.pass(36);
        CHECK.same("not at its first hour", 100, x.coupon(delayed, 0));
        x.pass(2);
        x.check(cancelled, 0);
        CHECK.same("not an hour ahead", 100, x.coupon(delayed, 0));
        x.pass(1);
        CHECK.same("at the hour of the delay", 103, x.coupon(delayed, 0));
        x.cancelLeg(2);
        x.pass(100);
        CHECK.same("a cancelled one does not depart", 201, x.coupon(cancelled, 0));
        CHECK.same("nobody has points", 0, x.points(0) + x.points(1));
    }

    private static void owedByTheSeller() {
        FareLattice x = new FareLattice();
        Networks.daily(x, 1, 0, 1, 2, 1, 9);
        Networks.daily(x, 2, 1, 2, 6, 2, 9);
        Networks.daily(x, 1, 2, 3, 10, 1, 9);
        x.fare(-1, 0, 3, 0, 101);
        int booking = Networks.ticketed(x, 2, -1, 1, 101, 201);
        x.pass(25);
        for (int i = 0; i < 3; i++) {
            x.check(booking, i);
        }
        x.pass(1);
        CHECK.same("a quarter, for 2", 50, x.owed(1, 1));
        CHECK.same("nothing for the other one yet", 0, x.owed(1, 2));
        x.pass(4);
        CHECK.same("two quarters for the other one", 100, x.owed(1, 2));
        x.pass(4);
        CHECK.same("what is left for itself", 50 + 52, x.owed(1, 1));
        CHECK.same("the other one owes nothing", 0, x.owed(2, 1) + x.owed(2, 2) + x.owed(0, 1) + x.owed(1, 0));
    }

    /** A member 4 with the tier 3, 3 with the tier 2, 2 with 1, 1 and 0 with 0; the time is 44 then. */
    private static FareLattice tiers() {
        FareLattice x = new FareLattice();
        x.flight(2, 4, 5, 0, 20, 60);
        x.days(0, 1, 1, 127);
        x.fare(-1, 4, 5, 0, 10);
        int[] persons = {1, 2, 3, 5, 9};
        for (int member = 0; member < 5; member++) {
            x.ticket(Networks.held(x, persons[member], member, 1));
        }
        x.pass(1);
        for (int member = 0; member < 5; member++) {
            x.check(member, 0);
        }
        x.pass(43);
        return x;
    }

    private static void deniedByTiersAndNumbers() {
        for (int denied = 0; denied <= 6; denied++) {
            FareLattice x = tiers();
            x.flight(0, 0, 1, 12, 2, 7 - denied);
            x.days(1, 2, 2, 127);
            Networks.limits(x, 1, 17 - denied);
            x.fare(0, 0, 1, 0, 10);
            // the bookings 5 to 11 have the tiers 3, 1, 0, 2, 0, 3, 3; 8 and 9 volunteer
            int[] members = {4, 2, -1, 3, 1, 4, 4};
            for (int i = 0; i < 7; i++) {
                x.ticket(Networks.held(x, 1, members[i], 102));
                x.check(5 + i, 0);
            }
            x.volunteer(8);
            x.volunteer(9);
            x.pass(16);
            CHECK.same("denied of 7", denied, x.denied());
            int[] order = {9, 8, 7, 6, 11, 10, 5};
            for (int i = 0; i < 7; i++) {
                CHECK.same(denied + " denied: booking " + order[i], i < denied ? 5 : 2, x.coupon(order[i], 0) % 10);
            }
        }
    }

    /** 3000 and 1800 points are of the same tier, so the greater number is denied. */
    private static void tierThreeIsTheHighest() {
        FareLattice x = new FareLattice();
        for (int i = 0; i < 3; i++) {
            x.flight(2, 4, 5, i, 20, 60);
            x.days(i, 1, 1, 127);
        }
        x.fare(-1, 4, 5, 0, 10);
        int[] members = {0, 0, 1};
        int[] persons = {9, 6, 9};
        for (int i = 0; i < 3; i++) {
            x.ticket(Networks.held(x, persons[i], members[i], 100 * i + 1));
        }
        x.pass(20);
        for (int i = 0; i < 3; i++) {
            x.check(i, 0);
        }
        x.pass(20);
        CHECK.same("3000", 3000, x.points(0));
        CHECK.same("1800", 1800, x.points(1));
        x.flight(0, 0, 1, 12, 2, 1);
        x.days(3, 2, 2, 127);
        Networks.limits(x, 3, 11);
        x.fare(0, 0, 1, 0, 10);
        x.ticket(Networks.held(x, 1, 1, 302));
        x.ticket(Networks.held(x, 1, 0, 302));
        x.check(3, 0);
        x.check(4, 0);
        x.pass(20);
        CHECK.same("the lower number flies", 30202, x.coupon(3, 0));
        CHECK.same("the greater one is denied", 30205, x.coupon(4, 0));
    }

    /** 490 points are the tier 0 and 500 the tier 1; member 0 is a member like others. */
    private static void tierByFiveHundred() {
        FareLattice x = new FareLattice();
        x.flight(2, 4, 5, 0, 10, 60);
        x.flight(2, 4, 5, 1, 7, 60);
        x.days(0, 1, 1, 127);
        x.days(1, 1, 1, 127);
        x.fare(-1, 4, 5, 0, 10);
        x.ticket(Networks.held(x, 5, 0, 1));
        x.ticket(Networks.held(x, 7, 1, 101));
        x.pass(20);
        x.check(0, 0);
        x.check(1, 0);
        x.pass(20);
        CHECK.same("500", 500, x.points(0));
        CHECK.same("490", 490, x.points(1));
        x.flight(0, 0, 1, 12, 2, 1);
        x.days(2, 2, 2, 127);
        Networks.limits(x, 2, 11);
        x.fare(0, 0, 1, 0, 10);
        x.ticket(Networks.held(x, 1, 1, 202));
        x.ticket(Networks.held(x, 1, 0, 202));
        x.check(2, 0);
        x.check(3, 0);
        x.pass(20);
        CHECK.same("the lower tier is denied", 20205, x.coupon(2, 0));
        CHECK.same("the higher one flies", 20202, x.coupon(3, 0));
    }

    private static void partiesAreDeniedWhole() {
        FareLattice x = new FareLattice();
        x.flight(0, 0, 1, 12, 2, 5);
        x.days(0, 1, 1, 127);
        Networks.limits(x, 0, 15);
        x.fare(0, 0, 1, 0, 10);
        for (int persons = 1; persons <= 4; persons++) {
            x.ticket(Networks.held(x, persons, 3, 1));
        }
        x.pass(35);
        for (int i = 0; i < 4; i++) {
            x.check(i, 0);
        }
        x.volunteer(1);
        x.pass(1);
        CHECK.same("the volunteers first", 105, x.coupon(1, 0));
        CHECK.same("then the greatest number", 105, x.coupon(3, 0));
        CHECK.same("4 persons fit", 102, x.coupon(2, 0));
        CHECK.same("and the first", 102, x.coupon(0, 0));
        CHECK.same("6 persons denied", 6, x.denied());
        CHECK.same("points of 4 persons", 80, x.points(3));
        CHECK.same("the shares of 4", 40, x.owed(0, 0));
    }

    private static void whoIsNotCheckedIsNotDenied() {
        FareLattice x = new FareLattice();
        x.flight(0, 0, 1, 12, 2, 2);
        x.days(0, 1, 1, 127);
        Networks.limits(x, 0, 12);
        x.fare(0, 0, 1, 0, 10);
        for (int i = 0; i < 3; i++) {
            x.ticket(Networks.held(x, 1, -1, 1));
        }
        x.volunteer(2);
        x.pass(35);
        x.check(0, 0);
        x.check(1, 0);
        x.pass(1);
        CHECK.same("2 for 2 seats", 0, x.denied());
        CHECK.same("a volunteer who is not checked has missed it", 103, x.coupon(2, 0));
    }

    private static void deniedAreMovedOn() {
        FareLattice x = new FareLattice();
        Networks.daily(x, 0, 1, 12, 2, 1);
        Networks.daily(x, 0, 1, 13, 2, 1);
        Networks.daily(x, 0, 1, 14, 2, 1);
        Networks.limits(x, 0, 11);
        x.limit(2, 0, 2);
        x.fare(0, 0, 1, 0, 10);
        for (int i = 0; i < 4; i++) {
            x.ticket(Networks.held(x, 1, -1, 1));
        }
        x.pass(20);
        for (int i = 0; i < 4; i++) {
            x.check(i, 0);
        }
        x.volunteer(1);
        x.pass(16);
        CHECK.same("3 denied", 3, x.denied());
        CHECK.same("the first has flown", 102, x.coupon(0, 0));
        CHECK.same("the volunteer is moved first", 10100, x.coupon(1, 1));
        CHECK.same("then the greatest number", 20100, x.coupon(3, 1));
        CHECK.same("then the other one", 20100, x.coupon(2, 1));
        CHECK.same("MOVED", 104, x.coupon(2, 0));
        CHECK.same("1 hour later the first seat is there", 1021, x.booking(1));
        x.check(3, 1);
        x.check(2, 1);
        x.pass(2);
        CHECK.same("denied once more", 4, x.denied());
        CHECK.same("the third coupon", 200, x.coupon(3, 2));
        CHECK.same("the other one has flown", 20102, x.coupon(2, 1));
        CHECK.same("its share is earned", 10 + 10, x.owed(0, 0));
    }

    private static void theFirstBookingCanBeDenied() {
        FareLattice x = new FareLattice();
        x.flight(0, 0, 1, 12, 2, 1);
        x.days(0, 1, 1, 127);
        Networks.limits(x, 0, 11);
        x.fare(0, 0, 1, 0, 10);
        x.ticket(Networks.held(x, 1, -1, 1));
        x.ticket(Networks.held(x, 1, -1, 1));
        x.volunteer(0);
        x.pass(35);
        x.check(0, 0);
        x.check(1, 0);
        x.pass(1);
        CHECK.same("the booking 0 is denied", 105, x.coupon(0, 0));
        CHECK.same("the booking 1 flies", 102, x.coupon(1, 0));
        CHECK.same("1 person", 1, x.denied());
    }

    private static void tiersAtTheDeparture() {
        FareLattice x = new FareLattice();
        x.flight(0, 0, 1, 12, 20, 4);
        x.days(0, 1, 1, 127);
        x.flight(0, 2, 3, 12, 1, 1);
        x.days(1, 1, 1, 127);
        Networks.limits(x, 1, 11);
        x.fare(0, 0, 1, 0, 10);
        x.fare(0, 2, 3, 0, 10);
        x.ticket(Networks.held(x, 3, 1, 1));
        x.ticket(Networks.held(x, 1, 0, 101));
        x.ticket(Networks.held(x, 1, 1, 101));
        x.pass(20);
        for (int i = 0; i < 3; i++) {
            x.check(i, 0);
        }
        x.pass(16);
        CHECK.same("the points of the lower number count already", 10102, x.coupon(2, 0));
        CHECK.same("so the other one is denied", 5, x.coupon(1, 0) % 10);
        CHECK.same("600 and 10", 610, x.points(1));
    }

    public static void main(String[] args) {
        passes();
        flownAndMissed();
        delayedDepartures();
        owedByTheSeller();
        deniedByTiersAndNumbers();
        tierThreeIsTheHighest();
        tierByFiveHundred();
        partiesAreDeniedWhole();
        whoIsNotCheckedIsNotDenied();
        deniedAreMovedOn();
        theFirstBookingCanBeDenied();
        tiersAtTheDeparture();
        CHECK.close();
    }
}
