/** How a coupon is moved on (promise 17, and 36 for those that are denied): which way is taken, and which is none. */
public final class MoveTest {
    private static final Check CHECK = new Check("MoveTest");

    /** The flights 0 and 1, once each on the day 2 from 0 to 1 at 8 and from 1 to 2 at 20; with fares for each. */
    private static FareLattice twoLegs() {
        FareLattice x = new FareLattice();
        Networks.once(x, 0, 1, 8, 2, 9, 2);
        Networks.once(x, 1, 2, 20, 2, 9, 2);
        x.fare(-1, 0, 1, 0, 10);
        x.fare(-1, 1, 2, 0, 20);
        x.fare(-1, 0, 2, 0, 90);
        return x;
    }

    /** Cancels the first leg of the booking, repairs, and tells to which leg it was moved; -1 if it is void. */
    private static int movedTo(FareLattice x, int booking) {
        x.cancelLeg(x.coupon(booking, 0) / 100);
        x.repair();
        return x.coupon(booking, 0) % 10 == 4 ? x.coupon(booking, 1) / 100 : -1;
    }

    private static void notEarlierThanNowAndOne() {
        FareLattice x = twoLegs();
        int booking = Networks.ticketed(x, 1, -1, 2);
        int early = Networks.once(x, 0, 1, 5, 2, 9, 1);
        x.pass(28);
        CHECK.same("now and 1 hour, ahead of its own departure", early, movedTo(x, booking));
        FareLattice y = twoLegs();
        int other = Networks.ticketed(y, 1, -1, 2);
        Networks.once(y, 0, 1, 5, 2, 9, 1);
        y.pass(29);
        CHECK.same("departed", -1, movedTo(y, other));
    }

    private static void atMost48HoursLater() {
        FareLattice x = twoLegs();
        int booking = Networks.ticketed(x, 1, -1, 2);
        Networks.once(x, 0, 1, 9, 2, 9, 4);
        CHECK.same("49 hours", -1, movedTo(x, booking));
        FareLattice y = twoLegs();
        int other = Networks.ticketed(y, 1, -1, 2);
        int late = Networks.once(y, 0, 1, 8, 2, 9, 4);
        CHECK.same("48 hours", late, movedTo(y, other));
        FareLattice z = twoLegs();
        int delayed = Networks.ticketed(z, 1, -1, 2);
        int later = Networks.once(z, 0, 1, 9, 2, 9, 4);
        z.delay(2, 1);
        CHECK.same("48 hours behind the departure with its delay", later, movedTo(z, delayed));
        FareLattice v = twoLegs();
        int first = Networks.ticketed(v, 1, -1, 2);
        int way = Networks.once(v, 0, 3, 8, 2, 9, 4);
        Networks.once(v, 3, 1, 20, 2, 9, 6);
        CHECK.same("the second leg may be later", way, movedTo(v, first));
    }

    private static void behindTheLegAhead() {
        FareLattice x = twoLegs();
        int booking = Networks.ticketed(x, 1, -1, 2, 102);
        Networks.once(x, 1, 2, 10, 2, 9, 2);
        int next = Networks.once(x, 1, 2, 11, 2, 9, 2);
        x.cancelLeg(102);
        CHECK.same("moved", 100, x.repair());
        CHECK.same("1 hour behind the arrival", next, x.coupon(booking, 2) / 100);
    }

    private static void aheadOfTheLegBehind() {
        FareLattice x = twoLegs();
        int booking = Networks.ticketed(x, 1, -1, 2, 102);
        Networks.once(x, 0, 1, 18, 2, 9, 2);
        CHECK.same("it would arrive as the leg behind departs", -1, movedTo(x, booking));
        FareLattice y = twoLegs();
        int other = Networks.ticketed(y, 1, -1, 2, 102);
        int late = Networks.once(y, 0, 1, 17, 2, 9, 2);
        CHECK.same("1 hour ahead of it", late, movedTo(y, other));
        FareLattice z = twoLegs();
        int third = Networks.ticketed(z, 1, -1, 2, 102);
        int far = Networks.once(z, 0, 1, 18, 2, 9, 2);
        z.delay(102, 1);
        CHECK.same("1 hour ahead of it, with its delay", far, movedTo(z, third));
        FareLattice v = twoLegs();
        int fourth = Networks.ticketed(v, 1, -1, 2, 102);
        Networks.once(v, 0, 3, 5, 2, 9, 2);
        Networks.once(v, 3, 1, 18, 2, 9, 2);
        CHECK.same("two legs arrive too late as well", -1, movedTo(v, fourth));
    }

    private static void nearestOnesThatAreNeitherMovedNorVoid() {
        FareLattice x = twoLegs();
        int booking = Networks.ticketed(x, 1, -1, 2, 102);
        x.cancelLeg(2);
        CHECK.same("the first one is void", 1, x.repair());
        int soon = Networks.once(x, 1, 2, 3, 2, 9, 1);
        x.cancelLeg(102);
        CHECK.same("the second one is moved", 100, x.repair());
        CHECK.same("nothing is ahead of it", soon, x.coupon(booking, 2) / 100);
        FareLattice y = twoLegs();
        int other = Networks.ticketed(y, 1, -1, 2, 102);
        y.cancelLeg(102);
        CHECK.same("the second one is void", 1, y.repair());
        int late = Networks.once(y, 0, 1, 8, 2, 9, 4);
        CHECK.same("nothing is behind the first one", late, movedTo(y, other));
        FareLattice z = twoLegs();
        int third = Networks.ticketed(z, 1, -1, 2, 102);
        Networks.once(z, 0, 1, 12, 2, 9, 2);
        Networks.once(z, 1, 2, 14, 2, 9, 2);
        z.cancelLeg(2);
        z.repair();
        z.cancelLeg(102);
        CHECK.same("the one that was put in is ahead of it, so 14 o'clock is too soon", 1, z.repair());
        CHECK.same("the second one is void", 10205, z.coupon(third, 2));
    }

    private static void behindSomeThatAreMovedOrVoid() {
        FareLattice x = twoLegs();
        int booking = Networks.ticketed(x, 1, -1, 2, 102);
        int late = Networks.once(x, 1, 2, 22, 1, 9, 2);
        Networks.once(x, 0, 1, 20, 1, 9, 2);
        int until = Networks.once(x, 0, 1, 19, 2, 9, 2);
        x.cancelLeg(102);
        CHECK.same("the second one is moved", 100, x.repair());
        CHECK.same("to the later one", 100 * late, x.coupon(booking, 2));
        x.cancelLeg(until - 100);
        CHECK.same("1 hour ahead of the one behind that which is moved", until, movedTo(x, booking));
        FareLattice y = new FareLattice();
        for (int i = 0; i < 3; i++) {
            Networks.once(y, i, i + 1, 6 * i, 2, 9, 2);
        }
        y.fare(-1, 0, 3, 0, 10);
        int other = Networks.ticketed(y, 1, -1, 2, 102, 202);
        y.cancelLeg(102);
        CHECK.same("the one in the middle is void", 1, y.repair());
        Networks.once(y, 2, 3, 2, 1, 9, 2);
        int enough = Networks.once(y, 2, 3, 3, 10, 9, 2);
        y.cancelLeg(202);
        CHECK.same("the last one is moved", 100, y.repair());
        CHECK.same("1 hour behind the one ahead of that which is void", 100 * enough, y.coupon(other, 3));
        y.delay(2, 1);
        CHECK.same("now that is not reached", 1, y.repair());
        CHECK.same("so it is void", 100 * enough + 5, y.coupon(other, 3));
    }

    private static void delayedLegOfTheDayBefore() {
        FareLattice x = new FareLattice();
        x.flight(0, 0, 1, 20, 2, 9);
        x.days(0, 0, 0, 127);
        Networks.once(x, 0, 1, 3, 2, 9, 1);
        Networks.once(x, 1, 2, 22, 2, 9, 0);
        Networks.once(x, 1, 2, 8, 2, 9, 1);
        Networks.once(x, 0, 3, 1, 1, 9, 1);
        x.fare(-1, 0, 1, 0, 10);
        x.fare(-1, 0, 2, 0, 10);
        int booking = Networks.ticketed(x, 1, -1, 101);
        int other = Networks.ticketed(x, 1, -1, 101, 301);
        x.delay(0, 8);
        x.delay(200, 8);
        x.pass(27 - 4);
        x.cancelLeg(301);
        CHECK.same("the last leg is reached no sooner", 100, x.repair());
        CHECK.same("of the day before, by its delay", 20000, x.coupon(other, 2));
        x.cancelLeg(101);
        x.cancel(other);
        CHECK.same("one is moved", 100, x.repair());
        CHECK.same("of the day 0, by its delay", 0, x.coupon(booking, 1));
    }

    private static void secondLegOfTheLowestFlight() {
        FareLattice x = new FareLattice();
        Networks.once(x, 3, 1, 14, 2, 9, 2);
        Networks.once(x, 0, 1, 8, 2, 9, 2);
        Networks.once(x, 0, 3, 10, 2, 9, 2);
        x.limit(0, 0, 2);
        x.fare(-1, 0, 1, 0, 10);
        int booking = Networks.ticketed(x, 2, -1, 102);
        CHECK.same("the first leg of the way", 202, movedTo(x, booking));
        CHECK.same("the second, with just enough seats", 200, x.coupon(booking, 2));
    }

    private static void theWayThatArrivesFirst() {
        FareLattice x = twoLegs();
        int booking = Networks.ticketed(x, 1, -1, 2);
        Networks.once(x, 0, 1, 9, 12, 9, 2);
        int first = Networks.once(x, 0, 3, 10, 2, 9, 2);
        Networks.once(x, 3, 1, 14, 6, 9, 2);
        CHECK.same("two legs arrive ahead of one that departs first", first, movedTo(x, booking));
        CHECK.same("both are put in", 1031, x.booking(booking));
        FareLattice y = twoLegs();
        int other = Networks.ticketed(y, 1, -1, 2);
        Networks.once(y, 0, 3, 10, 2, 9, 2);
        Networks.once(y, 3, 1, 14, 6, 9, 2);
        int single = Networks.once(y, 0, 1, 9, 11, 9, 2);
        CHECK.same("as early with fewer legs", single, movedTo(y, other));
        FareLattice z = twoLegs();
        int third = Networks.ticketed(z, 1, -1, 2);
        int lower = Networks.once(z, 0, 1, 12, 2, 9, 2);
        Networks.once(z, 0, 1, 11, 3, 9, 2);
        CHECK.same("as early with the lower number", lower, movedTo(z, third));
    }

    private static void asEarlyWithTwoLegs() {
        FareLattice x = twoLegs();
        int booking = Networks.ticketed(x, 1, -1, 2);
        Networks.once(x, 4, 1, 14, 6, 9, 2);
        int lower = Networks.once(x, 0, 3, 11, 2, 9, 2);
        Networks.once(x, 0, 4, 10, 2, 9, 2);
        Networks.once(x, 3, 1, 18, 2, 9, 2);
        int higher = Networks.once(x, 3, 1, 19, 1, 9, 2);
        CHECK.same("the lower number of the first", lower, movedTo(x, booking));
        CHECK.same("the lower number of the second", higher - 100, x.coupon(booking, 2) / 100);
        FareLattice y = twoLegs();
        int other = Networks.ticketed(y, 1, -1, 2);
        int early = Networks.once(y, 0, 3, 9, 2, 9, 2);
        int late = Networks.once(y, 0, 3, 14, 2, 9, 2);
        Networks.once(y, 3, 1, 17, 2, 9, 2);
        CHECK.same("the same second leg, the lower first one", early, movedTo(y, other));
        CHECK.same("though both reach it", 100, late - early);
    }

    private static void anHourBetweenTwoLegs() {
        FareLattice x = twoLegs();
        int booking = Networks.ticketed(x, 1, -1, 2);
        Networks.once(x, 0, 3, 10, 2, 9, 2);
        Networks.once(x, 3, 1, 12, 2, 9, 2);
        int enough = Networks.once(x, 3, 1, 13, 4, 9, 2);
        movedTo(x, booking);
        CHECK.same("1 hour is enough, less is not", enough, x.coupon(booking, 2) / 100);
        FareLattice y = twoLegs();
        int other = Networks.ticketed(y, 1, -1, 2);
        Networks.once(y, 0, 3, 10, 2, 9, 2);
        Networks.once(y, 3, 4, 13, 1, 9, 2);
        Networks.once(y, 4, 1, 15, 1, 9, 2);
        CHECK.same("three legs are none", -1, movedTo(y, other));
    }

    private static void seatsInTheBucketZero() {
        FareLattice x = twoLegs();
        int booking = Networks.ticketed(x, 3, -1, 2);
        int full = Networks.once(x, 0, 1, 10, 1, 9, 2);
        int free = Networks.once(x, 0, 1, 12, 1, 9, 2);
        x.limit(full / 100, 0, 2);
        x.limit(free / 100, 0, 3);
        for (int bucket = 1; bucket < 4; bucket++) {
            x.limit(free / 100, bucket, 0);
        }
        CHECK.same("3 seats in the bucket 0", free, movedTo(x, booking));
        CHECK.same("the bucket is 0", 100 * free, x.coupon(booking, 1));
        CHECK.same("the seats are sold", 0, x.open(free, 0));
        CHECK.same("those of the old leg are not", (Object) 0.0f, (Object) x.load(2));
        FareLattice y = twoLegs();
        int other = Networks.ticketed(y, 3, -1, 2);
        int first = Networks.once(y, 0, 3, 10, 1, 9, 2);
        int second = Networks.once(y, 3, 1, 12, 1, 9, 2);
        y.limit(second / 100, 0, 2);
        CHECK.same("each leg needs them", -1, movedTo(y, other));
        CHECK.same("the first had them", 9, y.open(first, 0));
        FareLattice z = twoLegs();
        int third = Networks.ticketed(z, 3, -1, 2);
        first = Networks.once(z, 0, 3, 10, 1, 9, 2);
        second = Networks.once(z, 3, 1, 12, 1, 9, 2);
        z.limit(second / 100, 0, 3);
        z.limit(second / 100, 1, 0);
        CHECK.same("3 seats of the second leg in the bucket 0", first, movedTo(z, third));
    }

    private static void cancelledLegsAreNoWay() {
        FareLattice x = twoLegs();
        int booking = Networks.ticketed(x, 1, -1, 2);
        int cancelled = Networks.once(x, 0, 1, 10, 1, 9, 2);
        int late = Networks.once(x, 0, 1, 12, 1, 9, 2);
        x.cancelLeg(cancelled);
        CHECK.same("the other one", late, movedTo(x, booking));
        x.cancelLeg(late);
        CHECK.same("then none", 1, x.repair());
        CHECK.same("MOVED stays", 204, x.coupon(booking, 0));
        CHECK.same("void is what was put in", 5, x.coupon(booking, 1) % 10);
    }

    private static void legsOfItsOtherCoupons() {
        FareLattice x = new FareLattice();
        int late = Networks.once(x, 0, 1, 8, 1, 9, 2);
        int home = Networks.once(x, 1, 0, 10, 1, 9, 2);
        int again = Networks.once(x, 0, 1, 12, 1, 9, 2);
        x.fare(-1, 0, 1, 0, 10);
        x.fare(-1, 1, 0, 0, 10);
        int booking = Networks.ticketed(x, 1, -1, late, home, again);
        int other = Networks.ticketed(x, 1, -1, again);
        x.delay(late, 8);
        x.pass(50);
        x.check(booking, 1);
        x.pass(8);
        CHECK.same("the second leg has flown, the first one has not", 10202, x.coupon(booking, 1));
        x.cancelLeg(again);
        CHECK.same("the first leg is none for its own booking, but for others", 101, x.repair());
        CHECK.same("void", 100 * again + 5, x.coupon(booking, 2));
        CHECK.same("moved to it", 100 * late, x.coupon(other, 1));
    }

    private static void itsOwnLegIsNoWay() {
        FareLattice x = new FareLattice();
        int out = Networks.once(x, 0, 1, 8, 2, 9, 2);
        int tight = Networks.once(x, 1, 2, 11, 2, 9, 2);
        x.fare(-1, 0, 2, 0, 10);
        int booking = Networks.ticketed(x, 1, -1, out, tight);
        x.delay(out, 1);
        CHECK.same("void", 1, x.repair());
        CHECK.same("no leg but its own", 5, x.coupon(booking, 1) % 10);
    }

    private static void backToALegThatWasLeft() {
        FareLattice x = new FareLattice();
        int a = Networks.once(x, 0, 1, 8, 2, 9, 2);
        int b = Networks.once(x, 1, 2, 11, 2, 9, 2);
        int other = Networks.once(x, 1, 2, 13, 2, 9, 2);
        x.fare(-1, 0, 2, 0, 10);
        int booking = Networks.ticketed(x, 1, -1, a, b);
        x.delay(a, 1);
        CHECK.same("moved to the other one", 100, x.repair());
        x.cancelLeg(other);
        x.delay(b, 1);
        CHECK.same("and back, as that is MOVED", 100, x.repair());
        CHECK.same("first", 100 * b + 4, x.coupon(booking, 1));
        CHECK.same("then", 100 * other + 4, x.coupon(booking, 2));
        CHECK.same("last", 100 * b, x.coupon(booking, 3));
        x.pass(40);
        CHECK.same("it counts once", 1, x.check(booking, 3));
        Networks.passTo(x, 40, 60);
        CHECK.same("MOVED stays", 100 * b + 4, x.coupon(booking, 1));
        CHECK.same("the last one has flown", 100 * b + 2, x.coupon(booking, 3));
        CHECK.same("load of one", (Object) (1.0f / 9.0f), (Object) x.load(b));
    }

    private static void tenCoupons() {
        FareLattice x = new FareLattice();
        for (int i = 0; i < 6; i++) {
            Networks.once(x, 0, 1, i, 1, 9, 2);
        }
        Networks.once(x, 0, 2, 6, 1, 9, 2);
        Networks.once(x, 2, 1, 8, 1, 9, 2);
        Networks.once(x, 1, 3, 20, 1, 9, 2);
        Networks.once(x, 3, 0, 20, 1, 9, 3);
        Networks.once(x, 0, 3, 20, 1, 9, 4);
        x.fare(-1, 0, 3, 0, 10);
        x.fare(-1, 3, 0, 0, 10);
        int[] legs = {2, 802, 903, 1004};
        int booking = Networks.ticketed(x, 1, -1, legs);
        CHECK.same("4 coupons", 1041, x.booking(booking));
        for (int i = 0; i < 5; i++) {
            x.cancelLeg(100 * i + 2);
            CHECK.same("one more", 100, x.repair());
        }
        CHECK.same("9 coupons", 1091, x.booking(booking));
        x.cancelLeg(502);
        CHECK.same("two more would be 11", 1, x.repair());
        CHECK.same("so it is void", 50205, x.coupon(booking, 5));
        CHECK.same("9 coupons still", 1091, x.booking(booking));
    }

    private static void tenCouponsByTwoLegs() {
        FareLattice x = new FareLattice();
        for (int i = 0; i < 5; i++) {
            Networks.once(x, 0, 1, i, 1, 9, 2);
        }
        Networks.once(x, 0, 2, 6, 1, 9, 2);
        Networks.once(x, 2, 1, 8, 1, 9, 2);
        Networks.once(x, 1, 3, 20, 1, 9, 2);
        Networks.once(x, 3, 0, 20, 1, 9, 3);
        Networks.once(x, 0, 3, 20, 1, 9, 4);
        x.fare(-1, 0, 3, 0, 10);
        x.fare(-1, 3, 0, 0, 10);
        int booking = Networks.ticketed(x, 1, -1, 2, 702, 803, 904);
        for (int i = 0; i < 4; i++) {
            x.cancelLeg(100 * i + 2);
            CHECK.same("one more", 100, x.repair());
        }
        x.cancelLeg(402);
        CHECK.same("two more are 10", 100, x.repair());
        CHECK.same("10 coupons", 1101, x.booking(booking));
    }

    private static void tenCouponsAreAllowed() {
        FareLattice x = new FareLattice();
        for (int i = 0; i < 8; i++) {
            Networks.once(x, 0, 1, i, 1, 9, 2);
        }
        Networks.once(x, 1, 3, 20, 1, 9, 2);
        Networks.once(x, 3, 0, 20, 1, 9, 3);
        Networks.once(x, 0, 3, 20, 1, 9, 4);
        x.fare(-1, 0, 3, 0, 10);
        x.fare(-1, 3, 0, 0, 10);
        int booking = Networks.ticketed(x, 1, -1, 2, 802, 903, 1004);
        for (int i = 0; i < 6; i++) {
            x.cancelLeg(100 * i + 2);
            CHECK.same("one more", 100, x.repair());
        }
        CHECK.same("10 coupons", 1101, x.booking(booking));
        CHECK.same("the last one in its place", 100400, x.coupon(booking, 9));
        x.cancelLeg(602);
        CHECK.same("an eleventh is none", 1, x.repair());
        CHECK.same("10 coupons still", 1101, x.booking(booking));
        CHECK.index("coupon 10", () -> x.coupon(booking, 10));
    }

    private static void sharesAndTaxesOfTwoLegs() {
        FareLattice x = new FareLattice();
        x.setTax(0, 5);
        x.setTax(3, 300);
        int own = Networks.once(x, 0, 1, 8, 2, 9, 2);
        int behind = Networks.once(x, 1, 2, 14, 3, 9, 2);
        x.flight(1, 0, 3, 9, 1, 9);
        x.flight(2, 3, 1, 11, 1, 9);
        x.days(2, 2, 2, 127);
        x.days(3, 2, 2, 127);
        x.fare(0, 0, 2, 1, 51);
        x.back(0, 100);
        int booking = Networks.ticketed(x, 2, -1, own, behind);
        x.cancelLeg(own);
        CHECK.same("one is moved", 100, x.repair());
        int part = x.part(booking, 1);
        CHECK.same("nothing", 0, x.share(part, 0));
        CHECK.same("2 of 5", 20, x.share(part, 1));
        CHECK.same("nothing for the second", 0, x.share(part, 2));
        CHECK.same("the last as it was", 31, x.share(part, 3));
        CHECK.same("its bucket as it was", 10210, x.coupon(part, 3));
        CHECK.same("all is given back, with the tax that was paid", 51 + 5, x.cancel(part));
        x.pass(50);
        x.check(booking, 1);
        x.check(booking, 2);
        Networks.passTo(x, 50, 59);
        CHECK.same("the carrier of the first earns the share", 20, x.owed(0, 1));
        CHECK.same("that of the second earns 0", 0, x.owed(0, 2));
        CHECK.same("both have flown", 4, x.coupon(booking, 1) % 10 + x.coupon(booking, 2) % 10);
        CHECK.same("the stretch was begun by what was put in", 0, x.cancel(booking));
    }

    public static void main(String[] args) {
        notEarlierThanNowAndOne();
        atMost48HoursLater();
        behindTheLegAhead();
        aheadOfTheLegBehind();
        nearestOnesThatAreNeitherMovedNorVoid();
        behindSomeThatAreMovedOrVoid();
        delayedLegOfTheDayBefore();
        secondLegOfTheLowestFlight();
        theWayThatArrivesFirst();
        asEarlyWithTwoLegs();
        anHourBetweenTwoLegs();
        seatsInTheBucketZero();
        cancelledLegsAreNoWay();
        legsOfItsOtherCoupons();
        itsOwnLegIsNoWay();
        backToALegThatWasLeft();
        tenCoupons();
        tenCouponsByTwoLegs();
        tenCouponsAreAllowed();
        sharesAndTaxesOfTwoLegs();
        CHECK.close();
    }
}
