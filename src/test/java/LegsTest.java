/** Promises 11 to 17: how legs stand, their seats, their delays and cancellations, and the repair of journeys. */
public final class LegsTest {
    private static final Check CHECK = new Check("LegsTest");

    private static void noSuchLeg() {
        FareLattice x = new FareLattice();
        int flight = x.flight(0, 0, 1, 12, 1, 5);
        x.flight(0, 0, 1, 12, 1, 5);
        x.days(flight, 2, 9, 0b0111110);
        int[] wrong = {-1, -100, 1, 7, 10, 61, 99, 100, 102, 200, Integer.MAX_VALUE, Integer.MIN_VALUE};
        for (int leg : wrong) {
            CHECK.index("departure of no leg " + leg, () -> x.departure(leg));
            CHECK.index("standing of no leg " + leg, () -> x.standing(leg));
            CHECK.index("open of no leg " + leg, () -> x.open(leg, 0));
            CHECK.index("load of no leg " + leg, () -> x.load(leg));
            CHECK.index("cancelLeg of no leg " + leg, () -> x.cancelLeg(leg));
            CHECK.index("delay of no leg " + leg + ", ahead of wrong hours", () -> x.delay(leg, 9));
            CHECK.index("leg of no leg " + leg, () -> x.leg(leg));
        }
        CHECK.index("bucket -1", () -> x.open(2, -1));
        CHECK.index("bucket 4", () -> x.open(2, 4));
    }

    private static void standings() {
        FareLattice x = new FareLattice();
        int night = Networks.daily(x, 0, 1, 0, 2, 5);
        int noon = Networks.daily(x, 0, 1, 12, 2, 5);
        CHECK.same("the hour 0 has come", 1, x.standing(100 * night));
        CHECK.same("ahead", 0, x.standing(100 * noon));
        x.pass(11);
        CHECK.same("one hour ahead", 0, x.standing(100 * noon));
        x.delay(100 * noon, 3);
        CHECK.same("delayed", 30, x.standing(100 * noon));
        CHECK.same("departs later", 15, x.departure(100 * noon));
        x.pass(3);
        CHECK.same("not yet", 30, x.standing(100 * noon));
        x.pass(1);
        CHECK.same("departed with a delay", 31, x.standing(100 * noon));
        x.delay(100 * noon + 1, 8);
        x.cancelLeg(100 * noon + 1);
        CHECK.same("cancelled with a delay", 82, x.standing(100 * noon + 1));
        x.pass(100);
        CHECK.same("a cancelled leg never departs", 82, x.standing(100 * noon + 1));
        int late = x.flight(0, 0, 1, 12, 2, 5);
        x.days(late, 0, 9, 127);
        CHECK.same("a flight that is added later has departed where its hour has come", 1, x.standing(100 * late + 4));
        CHECK.same("and not where it has not", 0, x.standing(100 * late + 5));
    }

    private static void openInNests() {
        FareLattice x = new FareLattice();
        int flight = Networks.daily(x, 0, 1, 12, 2, 10);
        x.limit(flight, 0, 9);
        x.limit(flight, 1, 7);
        x.limit(flight, 2, 8);
        x.limit(flight, 3, 3);
        for (int bucket = 0; bucket < 4; bucket++) {
            x.fare(0, 0, 1, bucket, 100 - bucket);
        }
        int[] atFirst = {9, 7, 7, 3};
        same(x, 1, atFirst, "at first");
        Networks.held(x, 2, -1, 1);
        CHECK.same("the cheapest is of the bucket 3", 130, x.coupon(0, 0) % 1000);
        same(x, 1, new int[] {7, 5, 5, 1}, "2 of the bucket 3 count for all");
        Networks.held(x, 3, -1, 1);
        CHECK.same("then the bucket 2", 120, x.coupon(1, 0) % 1000);
        same(x, 1, new int[] {4, 2, 2, 1}, "3 of the bucket 2 do not count for 3");
        x.limit(flight, 1, 0);
        same(x, 1, new int[] {4, 0, 0, 0}, "none below 0, and none behind it");
        x.limit(flight, 1, 20);
        x.limit(flight, 3, 20);
        same(x, 1, new int[] {4, 4, 3, 3}, "a limit above the seats");
        same(x, 2, new int[] {9, 9, 8, 8}, "another day has its own");
        CHECK.same("load", (Object) 0.5f, (Object) x.load(1));
        x.cancel(0);
        same(x, 1, new int[] {6, 6, 5, 5}, "what is cancelled is not sold");
        CHECK.same("load of the others", (Object) 0.3f, (Object) x.load(1));
        x.ticket(1);
        same(x, 1, new int[] {6, 6, 5, 5}, "what is ticketed is");
        x.cancelLeg(1);
        same(x, 1, new int[] {0, 0, 0, 0}, "none of a cancelled leg");
        CHECK.same("its load stays", (Object) 0.3f, (Object) x.load(1));
        x.pass(48 + 11);
        same(x, 2, new int[] {9, 9, 8, 8}, "one hour ahead");
        x.pass(1);
        same(x, 2, new int[] {0, 0, 0, 0}, "none of a departed leg");
    }

    private static void same(FareLattice x, int leg, int[] want, String what) {
        for (int bucket = 0; bucket < 4; bucket++) {
            CHECK.same("open in " + bucket + ", " + what, want[bucket], x.open(leg, bucket));
        }
    }

    private static void loads() {
        FareLattice x = new FareLattice();
        int flight = Networks.daily(x, 0, 1, 12, 2, 3);
        Networks.limits(x, flight, 9);
        x.fare(0, 0, 1, 0, 100);
        CHECK.same("nobody", (Object) 0.0f, (Object) x.load(1));
        int flown = Networks.ticketed(x, 1, -1, 1);
        CHECK.same("a third as a float", (Object) (1.0f / 3.0f), (Object) x.load(1));
        Networks.ticketed(x, 3, -1, 1);
        CHECK.same("above 1", (Object) (4.0f / 3.0f), (Object) x.load(1));
        x.pass(30);
        x.check(flown, 0);
        CHECK.same("who is checked counts", (Object) (4.0f / 3.0f), (Object) x.load(1));
        x.pass(6);
        CHECK.same("who has flown counts, who has missed it does not", (Object) (1.0f / 3.0f), (Object) x.load(1));
        x.cancel(flown);
        CHECK.same("not when the booking is cancelled", (Object) 0.0f, (Object) x.load(1));
    }

    private static void loadOfOneSeat() {
        FareLattice x = new FareLattice();
        Networks.daily(x, 0, 1, 12, 2, 1);
        x.fare(0, 0, 1, 0, 100);
        Networks.held(x, 1, -1, 1);
        CHECK.same("1 of 1", (Object) 1.0f, (Object) x.load(1));
    }

    private static void cancelLegs() {
        FareLattice x = new FareLattice();
        int flight = Networks.daily(x, 0, 1, 12, 2, 20);
        int onward = Networks.daily(x, 1, 2, 18, 2, 20);
        x.fare(0, 0, 1, 0, 100);
        x.fare(0, 1, 2, 0, 100);
        int first = Networks.ticketed(x, 2, -1, 1, 100 * onward + 1);
        int checked = Networks.ticketed(x, 3, -1, 1);
        int held = Networks.held(x, 4, -1, 100 * onward + 1);
        int heldBoth = Networks.held(x, 1, -1, 1, 100 * onward + 1);
        int away = Networks.ticketed(x, 5, -1, 1);
        x.cancel(away);
        x.pass(20);
        x.check(checked, 0);
        CHECK.same("OPEN and CHECKED of what is TICKETED", 5, x.cancelLeg(1));
        CHECK.same("what is held with it is cancelled", 3021, x.booking(heldBoth));
        CHECK.same("with all its coupons", 5, x.coupon(heldBoth, 1) % 10);
        CHECK.same("what is held without it is not", 14, x.booking(held));
        CHECK.same("ticketed coupons stay", 0, x.coupon(first, 0) % 10);
        CHECK.same("checked coupons stay", 1, x.coupon(checked, 0) % 10);
        CHECK.state("it is cancelled", () -> x.cancelLeg(1));
        CHECK.state("one that has departed", () -> x.cancelLeg(0));
        CHECK.same("nobody on another day", 0, x.cancelLeg(100 * flight + 2));
        x.pass(16);
        CHECK.same("nobody flies with it", 1, x.coupon(checked, 0) % 10);
        CHECK.same("nobody misses it", 0, x.coupon(first, 0) % 10);
        CHECK.same("who waits for its day", 0, x.cancelLeg(100 * onward + 2));
    }

    private static void cancelledAheadOfItsHour() {
        FareLattice x = new FareLattice();
        Networks.daily(x, 0, 1, 12, 2, 20);
        x.pass(35);
        CHECK.same("one hour ahead", 0, x.cancelLeg(1));
        x.pass(24);
        x.pass(1);
        CHECK.state("its hour has come", () -> x.cancelLeg(2));
        CHECK.state("its hour has come, for a delay", () -> x.delay(2, 1));
        CHECK.argument("wrong hours go ahead of that", () -> x.delay(2, 0));
    }

    private static void delays() {
        FareLattice x = new FareLattice();
        Networks.daily(x, 0, 1, 12, 2, 20);
        CHECK.argument("0 hours", () -> x.delay(1, 0));
        CHECK.argument("9 hours", () -> x.delay(1, 9));
        CHECK.same("the leg itself", 1, x.delay(1, 5));
        CHECK.same("more", 1, x.delay(1, 3));
        CHECK.same("8 in all", 80, x.standing(1));
        CHECK.same("8 hours later", 44, x.departure(1));
        CHECK.same("above 8 it is cancelled", 1, x.delay(1, 1));
        CHECK.same("with the delay that it had", 82, x.standing(1));
        CHECK.state("then no more", () -> x.delay(1, 1));
        CHECK.same("another day is not delayed", 0, x.standing(2));
        x.delay(3, 8);
        CHECK.same("8 at once", 80, x.standing(3));
    }

    private static void delayCancelsWhatIsHeld() {
        FareLattice x = new FareLattice();
        Networks.daily(x, 0, 1, 12, 2, 20);
        int next = Networks.daily(x, 1, 0, 15, 2, 20);
        x.link(0, next, false);
        x.fare(-1, 0, 1, 0, 10);
        x.fare(-1, 1, 0, 0, 10);
        int one = Networks.held(x, 1, -1, 1);
        int two = Networks.held(x, 1, -1, 100 * next + 1);
        x.delay(100 * next + 1, 4);
        CHECK.same("held while it is delayed", 11, x.booking(two));
        CHECK.same("it is late enough already", 1, x.delay(1, 4));
        CHECK.same("now it waits for the first one", 2, x.delay(1, 4));
        CHECK.same("not above 8", 11, x.booking(one));
        CHECK.same("not above 8 either", 11, x.booking(two));
        CHECK.same("above 8", 1, x.delay(100 * next + 1, 1));
        CHECK.same("what is held is cancelled", 3011, x.booking(two));
        CHECK.same("its coupon is void", 5, x.coupon(two, 0) % 10);
        x.delay(1, 1);
        CHECK.same("what is held is cancelled with the leg itself", 3011, x.booking(one));
    }

    private static void linkedDelays() {
        FareLattice x = new FareLattice();
        int a = Networks.daily(x, 0, 1, 8, 2, 5);
        int b = Networks.daily(x, 1, 2, 12, 2, 5);
        int c = Networks.daily(x, 2, 0, 4, 2, 5);
        x.link(a, b, false);
        x.link(b, c, true);
        CHECK.same("1 hour behind the arrival is enough", 1, x.delay(1, 1));
        CHECK.same("not delayed", 0, x.standing(101));
        CHECK.same("then one hour", 2, x.delay(1, 1));
        CHECK.same("delayed until 1 hour behind the arrival", 10, x.standing(101));
        CHECK.same("13 hours to the next day are enough", 0, x.standing(202));
        CHECK.same("the day after has nothing", 0, x.standing(102));
        x.delay(202, 1);
        CHECK.same("what is delayed already is delayed by less", 2, x.delay(1, 4));
        CHECK.same("50", 50, x.standing(101));
        CHECK.same("a link of another flight alone", 10, x.standing(202));
        x.delay(2, 1);
        x.cancelLeg(102);
        CHECK.same("what is cancelled is not delayed", 1, x.delay(2, 5));
        CHECK.same("stays cancelled", 2, x.standing(102));
        x.link(a, -1, false);
        CHECK.same("no link", 1, x.delay(3, 8));
        CHECK.same("no link, no delay", 0, x.standing(103));
    }

    private static void linkToNextDay() {
        FareLattice x = new FareLattice();
        int a = Networks.daily(x, 0, 1, 22, 4, 5);
        int b = x.flight(0, 1, 2, 3, 2, 5);
        x.days(b, 0, 20, 0b1110111);
        x.link(a, b, true);
        CHECK.same("the next day", 2, x.delay(100 * a + 1, 2));
        CHECK.same("it is delayed", 20, x.standing(100 * b + 2));
        CHECK.same("the next day has none", 1, x.delay(100 * a + 2, 8));
        CHECK.same("a day of the week later", 0, x.standing(100 * b + 4));
        CHECK.same("behind the last day there is none", 1, x.delay(100 * a + 20, 8));
        int last = x.flight(0, 0, 1, 22, 4, 5);
        x.days(last, 60, 60, 127);
        x.link(last, b, true);
        CHECK.same("there is no day 61", 1, x.delay(100 * last + 60, 8));
    }

    private static void linkToWhatIsAheadOrGone() {
        FareLattice x = new FareLattice();
        int a = Networks.daily(x, 0, 1, 20, 2, 5);
        int b = Networks.daily(x, 1, 2, 12, 2, 5);
        x.link(a, b, false);
        CHECK.same("telling a link delays nothing", 0, x.standing(100 * b + 1));
        x.pass(36);
        CHECK.same("the second one has departed", 1, x.delay(100 * a + 1, 1));
        CHECK.same("it has no delay", 1, x.standing(100 * b + 1));
        CHECK.same("it would have to wait for 12 hours", 2, x.delay(100 * a + 2, 1));
        CHECK.same("so it is cancelled", 2, x.standing(100 * b + 2));
    }

    private static void cancelledTakesNothingAlong() {
        FareLattice x = new FareLattice();
        int a = Networks.daily(x, 0, 1, 8, 2, 5);
        int b = Networks.daily(x, 1, 2, 11, 2, 5);
        int c = Networks.daily(x, 2, 0, 14, 2, 5);
        x.link(a, b, false);
        x.link(b, c, false);
        CHECK.same("three", 3, x.delay(1, 5));
        CHECK.same("5 hours each", 150, x.standing(1) + x.standing(101) + x.standing(201));
        CHECK.same("the first one is cancelled", 1, x.delay(1, 4));
        CHECK.same("the second one is as it was", 50, x.standing(101));
        FareLattice y = new FareLattice();
        Networks.daily(y, 0, 1, 8, 2, 5);
        Networks.daily(y, 1, 2, 8, 2, 5);
        Networks.daily(y, 2, 0, 14, 2, 5);
        y.link(0, 1, false);
        y.link(1, 2, false);
        CHECK.same("the first and the second", 2, y.delay(1, 7));
        CHECK.same("the second one, above 8, is cancelled", 2, y.standing(101));
        CHECK.same("the third one is as it was", 0, y.standing(201));
    }

    private static void sixLinks() {
        FareLattice x = new FareLattice();
        for (int i = 0; i < 9; i++) {
            Networks.daily(x, i % 2, 1 - i % 2, 2 * i, 1, 5);
        }
        for (int i = 0; i < 8; i++) {
            x.link(i, i + 1, false);
        }
        CHECK.same("the leg and six more", 7, x.delay(1, 3));
        CHECK.same("the sixth link", 30, x.standing(601));
        CHECK.same("not the seventh", 0, x.standing(701));
    }

    private static void roundLinks() {
        FareLattice x = new FareLattice();
        int out = Networks.daily(x, 0, 1, 8, 1, 5);
        int home = Networks.daily(x, 1, 0, 10, 1, 5);
        x.link(out, home, false);
        x.link(home, out, false);
        CHECK.same("each counts once", 2, x.delay(1, 1));
        CHECK.same("out again: 4 hours later, then 4 more are too many", 50, x.standing(101));
        CHECK.same("out: 1, then 4 later, then cancelled", 52, x.standing(1));
    }

    private static void brokenConnectionIsRepaired() {
        FareLattice x = new FareLattice();
        Networks.daily(x, 0, 1, 8, 2, 5);
        Networks.daily(x, 1, 2, 12, 2, 5);
        Networks.daily(x, 1, 2, 20, 2, 5);
        x.fare(0, 0, 2, 1, 90);
        int booking = Networks.ticketed(x, 1, -1, 1, 101);
        int held = Networks.held(x, 1, -1, 2, 102);
        x.delay(1, 1);
        CHECK.same("1 hour is enough", 0, x.repair());
        x.delay(1, 1);
        x.delay(2, 8);
        CHECK.same("less is not; what is held is left alone", 100, x.repair());
        CHECK.same("the coupon is moved", 10114, x.coupon(booking, 1));
        CHECK.same("one is put in behind it", 20100, x.coupon(booking, 2));
        CHECK.same("the first one stays", 110, x.coupon(booking, 0));
        CHECK.same("three coupons", 1031, x.booking(booking));
        CHECK.same("two of what is held", 21, x.booking(held));
        CHECK.same("nothing more to do", 0, x.repair());
    }

    private static void repairByTiersAndNumbers() {
        FareLattice x = new FareLattice();
        int far = x.flight(0, 2, 3, 0, 20, 60);
        x.days(far, 1, 1, 127);
        int full = x.flight(0, 0, 1, 12, 1, 5);
        x.days(full, 5, 5, 127);
        int left = x.flight(0, 0, 1, 18, 1, 2);
        x.days(left, 5, 5, 127);
        x.fare(0, 2, 3, 0, 10);
        x.fare(0, 0, 1, 0, 10);
        int flyer = Networks.ticketed(x, 3, 4, 1);
        int first = Networks.ticketed(x, 1, -1, 105);
        int second = Networks.ticketed(x, 1, 0, 105);
        int third = Networks.ticketed(x, 1, 4, 105);
        x.pass(1);
        x.check(flyer, 0);
        Networks.passTo(x, 1, 24);
        CHECK.same("the tier 1 of member 4", 600, x.points(4));
        x.cancelLeg(105);
        CHECK.same("two are moved, one is void", 201, x.repair());
        CHECK.same("the higher tier goes first", 4, x.coupon(third, 0) % 10);
        CHECK.same("then the lower number", 4, x.coupon(first, 0) % 10);
        CHECK.same("nothing is left", 5, x.coupon(second, 0) % 10);
    }

    private static void repairOfChecked() {
        FareLattice x = new FareLattice();
        Networks.daily(x, 0, 1, 12, 2, 5);
        Networks.daily(x, 0, 1, 14, 2, 5);
        x.fare(0, 0, 1, 0, 10);
        int booking = Networks.ticketed(x, 1, -1, 1);
        x.pass(15);
        x.check(booking, 0);
        x.cancelLeg(1);
        CHECK.same("CHECKED is moved too", 100, x.repair());
        CHECK.same("it is OPEN for the other leg", 10100, x.coupon(booking, 1));
        x.cancelLeg(101);
        CHECK.same("what was put in is moved too", 100, x.repair());
        CHECK.same("to the next day", 200, x.coupon(booking, 2));
    }

    private static void repairOfWhatDepartedWhileHeld() {
        FareLattice x = new FareLattice();
        Networks.daily(x, 0, 1, 8, 2, 5);
        Networks.daily(x, 1, 2, 12, 2, 5);
        x.fare(0, 0, 2, 0, 10);
        int booking = Networks.held(x, 1, -1, 1, 101);
        x.delay(1, 2);
        Networks.passTo(x, 0, 37);
        x.ticket(booking);
        CHECK.same("both have departed, the second one ahead of the arrival", 100, x.repair());
        CHECK.same("the first one stays OPEN", 100, x.coupon(booking, 0));
        CHECK.same("the second one is moved", 10104, x.coupon(booking, 1));
        CHECK.same("to the next day", 10200, x.coupon(booking, 2));
    }

    public static void main(String[] args) {
        noSuchLeg();
        standings();
        openInNests();
        loads();
        loadOfOneSeat();
        cancelLegs();
        cancelledAheadOfItsHour();
        delays();
        delayCancelsWhatIsHeld();
        linkedDelays();
        linkToNextDay();
        linkToWhatIsAheadOrGone();
        cancelledTakesNothingAlong();
        sixLinks();
        roundLinks();
        brokenConnectionIsRepaired();
        repairByTiersAndNumbers();
        repairOfChecked();
        repairOfWhatDepartedWhileHeld();
        CHECK.close();
    }
}
