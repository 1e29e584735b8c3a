/** Promises 24 to 35: holds, wishes, tickets, parties, refunds, coupons, shares, check-in and volunteers. */
public final class BookingsTest {
    private static final Check CHECK = new Check("BookingsTest");

    /** A flight of 5 seats each day at 12, with a fare of 100. */
    private static FareLattice oneFlight() {
        FareLattice x = new FareLattice();
        Networks.daily(x, 0, 1, 12, 2, 5);
        x.fare(0, 0, 1, 0, 100);
        return x;
    }

    private static void holds() {
        FareLattice x = oneFlight();
        CHECK.state("an empty draft", () -> x.hold(1, -1, 1));
        x.leg(1);
        CHECK.index("member -2", () -> x.hold(1, -2, 1));
        CHECK.index("member 5, ahead of wrong persons", () -> x.hold(0, 5, 1));
        CHECK.argument("0 persons", () -> x.hold(0, -1, 1));
        CHECK.argument("10 persons", () -> x.hold(10, -1, 1));
        CHECK.argument("0 hours", () -> x.hold(1, -1, 0));
        CHECK.argument("73 hours, ahead of no way", () -> x.hold(6, -1, 73));
        CHECK.state("5 seats are open", () -> x.hold(6, -1, 72));
        CHECK.same("the draft is as it was", 100, x.price(5));
        CHECK.same("the first booking", 0, x.hold(2, 4, 72));
        CHECK.same("the draft is empty", 0, x.dropLegs());
        CHECK.same("HELD, 1 coupon, 2 persons", 12, x.booking(0));
        CHECK.same("leg, bucket and state", 100, x.coupon(0, 0));
        x.leg(1);
        CHECK.same("the second booking", 1, x.hold(3, -1, 1));
        x.leg(1);
        CHECK.state("none is open", () -> x.hold(1, -1, 1));
        x.pass(1);
        CHECK.same("at its limit it lapses", 2013, x.booking(1));
        CHECK.same("its coupon is void", 105, x.coupon(1, 0));
        CHECK.same("its seats are open", 2, x.hold(3, -1, 1));
    }

    private static void limitOfHolds() {
        FareLattice x = oneFlight();
        Networks.draft(x, 3);
        x.hold(1, -1, 72);
        x.pass(71);
        CHECK.same("one hour ahead of its limit", 11, x.booking(0));
        Networks.draft(x, 3);
        x.hold(1, -1, 2);
        x.pass(1);
        CHECK.same("at its limit", 2011, x.booking(0));
        CHECK.same("the hours count from now", 11, x.booking(1));
        x.ticket(1);
        x.pass(1);
        CHECK.same("what is ticketed does not lapse", 1011, x.booking(1));
    }

    private static void lapsesAheadOfDepartures() {
        FareLattice x = oneFlight();
        Networks.draft(x, 1);
        x.hold(1, -1, 36);
        x.pass(36);
        CHECK.same("it has lapsed", 2011, x.booking(0));
        CHECK.same("it is void", 105, x.coupon(0, 0));
        CHECK.same("the leg has departed", 1, x.standing(1));
    }

    private static void fortyBookings() {
        FareLattice x = new FareLattice();
        Networks.daily(x, 0, 1, 12, 2, 60);
        x.fare(0, 0, 1, 0, 100);
        int last = -1;
        for (int i = 0; i < 39; i++) {
            last = Networks.held(x, 1 + i % 2, -1, 1);
            if (i >= 2) {
                x.cancel(last);
            }
        }
        CHECK.same("39 of them", 38, last);
        for (int i = 0; i < 2; i++) {
            Networks.draft(x, 2);
            x.wish(1, -1);
        }
        CHECK.same("one more is held", 1, x.clear());
        CHECK.same("by the last one", 39, x.wished(0));
        CHECK.same("the other one goes on waiting", -1, x.wished(1));
        x.leg(1);
        CHECK.state("there are 40", () -> x.hold(1, -1, 1));
        CHECK.argument("wrong hours go ahead of that", () -> x.hold(1, -1, 0));
        CHECK.state("there are 40, for parties", () -> x.part(1, 1));
        CHECK.argument("wrong persons go ahead of that", () -> x.part(1, 2));
        CHECK.same("the draft is as it was", 1, x.dropLegs());
        CHECK.same("the party is as it was", 12, x.booking(1));
        CHECK.same("none is held any more", 0, x.clear());
    }

    private static void wishes() {
        FareLattice x = oneFlight();
        CHECK.index("no such wish", () -> x.wished(0));
        CHECK.state("an empty draft", () -> x.wish(1, -1));
        x.leg(1);
        CHECK.index("member 5, ahead of wrong persons", () -> x.wish(0, 5));
        CHECK.index("member -2", () -> x.wish(1, -2));
        CHECK.argument("0 persons", () -> x.wish(0, -1));
        CHECK.argument("10 persons", () -> x.wish(10, -1));
        CHECK.same("the draft is as it was", 1, x.dropLegs());
        CHECK.argument("wrong persons go ahead of an empty draft", () -> x.wish(10, -1));
        for (int i = 0; i < 20; i++) {
            x.leg(1);
            CHECK.same("wishes are numbered", i, x.wish(9, 4));
        }
        CHECK.same("the draft is empty", 0, x.dropLegs());
        x.leg(1);
        CHECK.state("there are 20", () -> x.wish(1, -1));
        CHECK.same("the draft is as it was, again", 1, x.dropLegs());
        CHECK.same("9 are too many", 0, x.clear());
        CHECK.same("it waits", -1, x.wished(19));
        CHECK.index("wish -1", () -> x.wished(-1));
        CHECK.index("wish 20", () -> x.wished(20));
    }

    private static void clearedByNumbers() {
        FareLattice x = oneFlight();
        int[] persons = {3, 4, 2, 1};
        for (int party : persons) {
            Networks.draft(x, 1);
            x.wish(party, -1);
        }
        CHECK.same("3 and 2 of 5 seats", 2, x.clear());
        CHECK.same("the first", 0, x.wished(0));
        CHECK.same("4 are too many then", -1, x.wished(1));
        CHECK.same("the third", 1, x.wished(2));
        CHECK.same("none is left", -1, x.wished(3));
        CHECK.same("held", 13, x.booking(0));
        CHECK.same("nothing is held twice", 0, x.clear());
        x.pass(23);
        CHECK.same("one hour ahead of the limit", 12, x.booking(1));
        x.ticket(0);
        x.pass(1);
        CHECK.same("held for 24 hours", 2012, x.booking(1));
        CHECK.same("a wish stays with its booking", 1, x.wished(2));
        CHECK.same("those behind it are held", 1, x.clear());
        CHECK.same("the last", 2, x.wished(3));
    }

    private static void waitsNoMore() {
        FareLattice x = oneFlight();
        Networks.daily(x, 1, 2, 18, 2, 5);
        Networks.draft(x, 0, 100);
        x.wish(1, -1);
        Networks.draft(x, 2);
        x.wish(1, -1);
        x.cancelLeg(2);
        x.pass(11);
        CHECK.same("one hour ahead", -1, x.wished(0));
        x.pass(1);
        CHECK.same("the first of its legs has departed", -2, x.wished(0));
        x.pass(100);
        CHECK.same("a cancelled leg never departs", -1, x.wished(1));
        Networks.draft(x, 1);
        x.wish(1, -1);
        CHECK.same("it had departed when it was wished", -2, x.wished(2));
        CHECK.same("none is held", 0, x.clear());
    }

    private static void clearedByTiers() {
        FareLattice x = new FareLattice();
        Networks.daily(x, 4, 5, 0, 20, 60);
        Networks.daily(x, 0, 1, 12, 2, 1);
        x.fare(0, 4, 5, 0, 10);
        x.fare(0, 0, 1, 0, 100);
        int[] persons = {2, 3, 5, 8, 9};
        for (int member = 0; member < 5; member++) {
            x.ticket(Networks.held(x, persons[member], member, 1));
        }
        x.pass(23);
        for (int member = 0; member < 5; member++) {
            x.check(member, 0);
        }
        x.pass(1);
        int[] points = {400, 600, 1000, 1600, 1800};
        for (int member = 0; member < 5; member++) {
            CHECK.same("10 for each hour and person", points[member], x.points(member));
        }
        int[] members = {-1, 0, 1, 2, 4, 3};
        for (int member : members) {
            Networks.draft(x, 105);
            x.wish(1, member);
        }
        int[] order = {4, 5, 3, 2, 0, 1};
        for (int i = 0; i < order.length; i++) {
            CHECK.same("one seat", 1, x.clear());
            CHECK.same("the next of the order", 5 + i, x.wished(order[i]));
            x.cancel(5 + i);
        }
        CHECK.same("none waits", 0, x.clear());
    }

    private static void tickets() {
        FareLattice x = new FareLattice();
        x.setTax(0, 7);
        x.setTax(1, 3);
        Networks.daily(x, 0, 1, 8, 2, 9);
        Networks.daily(x, 1, 2, 18, 2, 9);
        x.fare(0, 0, 1, 0, 40);
        x.fare(0, 1, 2, 0, 50);
        CHECK.index("no such booking", () -> x.ticket(0));
        int booking = Networks.held(x, 3, -1, 1, 101);
        x.setTax(0, 500);
        x.fare(0, 0, 2, 0, 1);
        CHECK.same("the price when it was held", 3 * (40 + 50 + 7 + 3), x.ticket(booking));
        CHECK.same("TICKETED", 1023, x.booking(booking));
        CHECK.state("it is not HELD", () -> x.ticket(booking));
        int other = Networks.held(x, 1, -1, 1, 101);
        x.cancel(other);
        CHECK.state("it is CANCELLED", () -> x.ticket(other));
        int third = Networks.held(x, 1, -1, 1);
        x.pass(72);
        CHECK.state("it has LAPSED", () -> x.ticket(third));
        CHECK.index("booking -1", () -> x.ticket(-1));
        CHECK.index("booking 3", () -> x.ticket(3));
    }

    private static void ticketBehindTheDeparture() {
        FareLattice x = oneFlight();
        int booking = Networks.held(x, 1, -1, 1);
        Networks.passTo(x, 0, 40);
        CHECK.same("held ones are not touched", 100, x.coupon(booking, 0));
        CHECK.same("it can be ticketed", 100, x.ticket(booking));
        CHECK.same("it stays OPEN", 100, x.coupon(booking, 0));
        CHECK.state("it can't be checked in", () -> x.check(booking, 0));
        CHECK.same("it counts as sold", (Object) 0.2f, (Object) x.load(1));
    }

    private static void parts() {
        FareLattice x = new FareLattice();
        x.setTax(0, 10);
        Networks.daily(x, 0, 1, 8, 2, 9);
        Networks.daily(x, 1, 2, 11, 4, 9);
        x.fare(0, 0, 2, 2, 91);
        x.back(0, 100);
        CHECK.index("no such booking, ahead of wrong persons", () -> x.part(0, 0));
        int booking = Networks.ticketed(x, 5, 3, 1, 101);
        CHECK.argument("0 persons", () -> x.part(booking, 0));
        CHECK.argument("all persons", () -> x.part(booking, 5));
        CHECK.argument("-1 persons", () -> x.part(booking, -1));
        x.volunteer(booking);
        x.pass(20);
        x.check(booking, 0);
        CHECK.same("the next number", 1, x.part(booking, 2));
        CHECK.same("3 are left", 1023, x.booking(0));
        CHECK.same("2 have gone", 1022, x.booking(1));
        for (int i = 0; i < 2; i++) {
            CHECK.same("the same coupons", x.coupon(0, i), x.coupon(1, i));
            CHECK.same("the same shares", x.share(0, i), x.share(1, i));
        }
        CHECK.same("CHECKED as well", 121, x.coupon(1, 0));
        CHECK.same("a volunteer as well", 0, x.volunteer(1) ? 1 : 0);
        CHECK.same("the other one is apart", 0, x.volunteer(0) ? 1 : 0);
        CHECK.same("seats stay as they are", 4, x.open(1, 0));
        CHECK.same("given back for 2", 2 * 101, x.cancel(1));
        CHECK.same("the other one stays", 121, x.coupon(0, 0));
        CHECK.state("CANCELLED", () -> x.part(1, 1));
        CHECK.argument("wrong persons go ahead of that", () -> x.part(1, 2));
        x.pass(12);
        CHECK.same("the points of those that are left", 3 * 20, x.points(3));
        CHECK.same("a party that has flown can part", 2, x.part(0, 1));
        CHECK.same("its coupon is FLOWN", 122, x.coupon(2, 0));
    }

    private static void partsOfHeld() {
        FareLattice x = oneFlight();
        Networks.draft(x, 1);
        x.hold(3, -1, 5);
        int other = x.part(0, 1);
        CHECK.same("HELD as well", 11, x.booking(other));
        CHECK.same("paid for one", 100, x.ticket(other));
        x.pass(5);
        CHECK.same("the same limit", 2012, x.booking(0));
        CHECK.state("LAPSED", () -> x.part(0, 1));
        Networks.draft(x, 2);
        int held = x.hold(3, -1, 5);
        int part = x.part(held, 1);
        x.pass(5);
        CHECK.same("the limit goes along", 2011, x.booking(part));
    }

    private static void cancels() {
        FareLattice x = new FareLattice();
        x.setTax(0, 7);
        x.setTax(1, 3);
        Networks.daily(x, 0, 1, 8, 2, 9);
        Networks.daily(x, 1, 2, 18, 2, 9);
        x.fare(0, 0, 1, 0, 41);
        x.fare(0, 1, 2, 0, 55);
        x.back(1, 33);
        CHECK.index("no such booking", () -> x.cancel(0));
        int held = Networks.held(x, 2, -1, 1, 101);
        CHECK.same("nothing for what is HELD", 0, x.cancel(held));
        CHECK.same("CANCELLED", 3022, x.booking(held));
        CHECK.same("void", 105, x.coupon(held, 0));
        CHECK.state("CANCELLED already", () -> x.cancel(held));
        int whole = Networks.ticketed(x, 2, -1, 1, 101);
        CHECK.same("each percentage rounded down, and the taxes", 2 * (20 + 18 + 7 + 3), x.cancel(whole));
        int missed = Networks.ticketed(x, 2, -1, 1, 101);
        int flown = Networks.ticketed(x, 3, -1, 1, 101);
        int lapsed = Networks.held(x, 1, -1, 1);
        x.pass(31);
        x.check(flown, 0);
        x.pass(1);
        CHECK.same("the second stretch and its tax, of what has flown", 3 * (18 + 3), x.cancel(flown));
        CHECK.same("FLOWN stays", 102, x.coupon(flown, 0));
        CHECK.same("OPEN becomes void", 10105, x.coupon(flown, 1));
        CHECK.same("the same of what was missed", 2 * (18 + 3), x.cancel(missed));
        CHECK.same("MISSED stays", 103, x.coupon(missed, 0));
        x.pass(40);
        CHECK.state("LAPSED", () -> x.cancel(lapsed));
    }

    private static void cancelOfOneStretch() {
        FareLattice x = new FareLattice();
        x.setTax(0, 7);
        x.setTax(1, 3);
        Networks.daily(x, 0, 1, 8, 2, 9);
        Networks.daily(x, 1, 2, 18, 2, 9);
        x.fare(0, 0, 2, 0, 99);
        x.back(0, 100);
        int flown = Networks.ticketed(x, 1, -1, 1, 101);
        int checked = Networks.ticketed(x, 1, -1, 1, 101);
        x.pass(24);
        x.check(flown, 0);
        x.check(checked, 0);
        CHECK.same("CHECKED gives all back", 99 + 7 + 3, x.cancel(checked));
        CHECK.same("and is void", 105, x.coupon(checked, 0));
        x.pass(8);
        CHECK.same("nothing of a stretch that was begun but the tax", 3, x.cancel(flown));
    }

    private static void cancelOfMovedAndVoid() {
        FareLattice x = new FareLattice();
        x.setTax(0, 7);
        x.setTax(1, 3);
        x.setTax(2, 100);
        x.flight(0, 0, 1, 8, 2, 9);
        x.flight(0, 1, 3, 18, 2, 9);
        x.flight(0, 0, 2, 9, 1, 1);
        x.flight(0, 2, 1, 17, 1, 9);
        x.days(0, 1, 5, 0b0100010);
        x.days(1, 2, 2, 127);
        x.days(2, 1, 1, 127);
        x.days(3, 1, 1, 127);
        x.fare(0, 0, 1, 0, 50);
        x.fare(0, 1, 3, 0, 60);
        int moved = Networks.ticketed(x, 1, -1, 1, 102);
        int empty = Networks.ticketed(x, 2, -1, 5);
        x.cancelLeg(1);
        x.cancelLeg(5);
        CHECK.same("one moved to two legs, one void", 101, x.repair());
        CHECK.same("moved", 104, x.coupon(moved, 0));
        CHECK.same("the first of the way", 20100, x.coupon(moved, 1));
        CHECK.same("the second of the way", 30100, x.coupon(moved, 2));
        CHECK.same("nothing for the moved one", 0, x.share(moved, 0));
        CHECK.same("its share for the first", 50, x.share(moved, 1));
        CHECK.same("nothing for the second", 0, x.share(moved, 2));
        CHECK.same("a void one keeps its share", 50, x.share(empty, 0));
        CHECK.same("void", 505, x.coupon(empty, 0));
        CHECK.same("a void coupon gives its tax back", 2 * (25 + 7), x.cancel(empty));
        x.pass(20);
        x.check(moved, 1);
        x.pass(13);
        CHECK.same("FLOWN", 20102, x.coupon(moved, 1));
        CHECK.same("nothing of its stretch, whose tax has flown with the first one", 30 + 3, x.cancel(moved));
        CHECK.same("four coupons", 3041, x.booking(moved));
    }

    private static void bookingsAndCoupons() {
        FareLattice x = new FareLattice();
        Networks.daily(x, 0, 1, 8, 2, 9);
        Networks.daily(x, 1, 2, 11, 4, 9);
        x.fare(0, 0, 1, 3, 10);
        x.fare(0, 1, 2, 1, 10);
        int[] none = {-1, 0, 1};
        for (int booking : none) {
            CHECK.index("booking " + booking, () -> x.booking(booking));
            CHECK.index("coupon of " + booking, () -> x.coupon(booking, 0));
            CHECK.index("share of " + booking, () -> x.share(booking, 0));
            CHECK.index("check of " + booking, () -> x.check(booking, 0));
            CHECK.index("volunteer " + booking, () -> x.volunteer(booking));
        }
        Networks.held(x, 9, -1, 12, 112);
        CHECK.same("9 persons, 2 coupons", 29, x.booking(0));
        CHECK.same("leg 12, bucket 3", 1230, x.coupon(0, 0));
        CHECK.same("leg 112, bucket 1", 11210, x.coupon(0, 1));
        int[] wrong = {-1, 2};
        for (int coupon : wrong) {
            CHECK.index("coupon " + coupon, () -> x.coupon(0, coupon));
            CHECK.index("share " + coupon, () -> x.share(0, coupon));
            CHECK.index("check " + coupon, () -> x.check(0, coupon));
        }
    }

    private static void shares() {
        FareLattice x = new FareLattice();
        int[] lengths = {1, 2, 4, 3};
        for (int i = 0; i < 4; i++) {
            Networks.daily(x, i, i + 1, 6 * i, lengths[i], 9);
        }
        x.fare(0, 0, 4, 0, 99);
        int booking = Networks.held(x, 1, -1, 1, 101, 201, 301);
        CHECK.same("1 of 10", 9, x.share(booking, 0));
        CHECK.same("2 of 10", 19, x.share(booking, 1));
        CHECK.same("4 of 10", 39, x.share(booking, 2));
        CHECK.same("what is left", 99 - 9 - 19 - 39, x.share(booking, 3));
        x.fare(0, 0, 1, 0, 5);
        x.fare(0, 1, 3, 0, 20);
        x.fare(0, 3, 4, 0, 6);
        int other = Networks.held(x, 3, -1, 1, 101, 201, 301);
        int[] wants = {5, 6, 14, 6};
        for (int i = 0; i < 4; i++) {
            CHECK.same("of each stretch its own amount", wants[i], x.share(other, i));
        }
    }

    private static void checks() {
        FareLattice x = oneFlight();
        int first = Networks.ticketed(x, 2, -1, 1);
        int second = Networks.ticketed(x, 1, -1, 1);
        int held = Networks.held(x, 1, -1, 1);
        x.pass(11);
        CHECK.state("25 hours ahead", () -> x.check(first, 0));
        x.pass(1);
        CHECK.same("24 hours ahead", 2, x.check(first, 0));
        CHECK.same("CHECKED", 101, x.coupon(first, 0));
        CHECK.state("it is not OPEN", () -> x.check(first, 0));
        CHECK.state("it is HELD", () -> x.check(held, 0));
        x.pass(23);
        CHECK.same("1 hour ahead; 3 in all", 3, x.check(second, 0));
        x.ticket(held);
        x.pass(1);
        CHECK.state("at the departure", () -> x.check(held, 0));
        CHECK.same("MISSED", 103, x.coupon(held, 0));
        int later = Networks.ticketed(x, 1, -1, 2);
        x.delay(2, 3);
        x.pass(2);
        CHECK.state("the delay counts", () -> x.check(later, 0));
        x.pass(1);
        CHECK.same("24 hours ahead of the delayed one", 1, x.check(later, 0));
        int other = Networks.ticketed(x, 1, -1, 2);
        x.cancelLeg(2);
        CHECK.state("the leg is cancelled", () -> x.check(other, 0));
        CHECK.same("it stays OPEN", 200, x.coupon(other, 0));
        x.cancel(other);
        CHECK.state("it is CANCELLED", () -> x.check(other, 0));
    }

    private static void checkedCounts() {
        FareLattice x = new FareLattice();
        Networks.daily(x, 0, 1, 8, 2, 9);
        Networks.daily(x, 1, 2, 11, 4, 9);
        x.fare(0, 0, 2, 0, 10);
        int first = Networks.ticketed(x, 2, -1, 1, 101);
        int second = Networks.ticketed(x, 3, -1, 1, 101);
        x.pass(12);
        x.check(first, 0);
        CHECK.same("for this leg alone", 2, x.check(first, 1));
        CHECK.same("both for the other one", 5, x.check(second, 0));
        x.cancel(first);
        CHECK.same("what is cancelled does not count", 3, x.check(second, 1));
    }

    private static void volunteers() {
        FareLattice x = oneFlight();
        int booking = Networks.held(x, 1, -1, 1);
        CHECK.isTrue("it does", x.volunteer(booking));
        CHECK.isTrue("not any more", !x.volunteer(booking));
        x.cancel(booking);
        CHECK.isTrue("it does, whatever its state", x.volunteer(booking));
    }

    public static void main(String[] args) {
        holds();
        limitOfHolds();
        lapsesAheadOfDepartures();
        fortyBookings();
        wishes();
        clearedByNumbers();
        waitsNoMore();
        clearedByTiers();
        tickets();
        ticketBehindTheDeparture();
        parts();
        partsOfHeld();
        cancels();
        cancelOfOneStretch();
        cancelOfMovedAndVoid();
        bookingsAndCoupons();
        shares();
        checks();
        checkedCounts();
        volunteers();
        CHECK.close();
    }
}
