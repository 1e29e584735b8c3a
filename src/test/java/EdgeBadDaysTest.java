import java.util.List;

/** The document's terms on bad days, shares and exceptions, sentence by sentence: a test of its own at the edges of each. */
public final class EdgeBadDaysTest {
    private static final Check CHECK = new Check("EdgeBadDaysTest");
    private static final Edges EDGES = new Edges(CHECK);
    private static final Sentences DOC = new Sentences(CHECK, List.of("Bad days", "Shares"));
    private static final String INDEX = Edges.INDEX;
    private static final String ARGUMENT = Edges.ARGUMENT;
    private static final String STATE = Edges.STATE;

    private static final int OPEN = 0;
    private static final int CHECKED = 1;
    private static final int FLOWN = 2;
    private static final int MISSED = 3;
    private static final int MOVED = 4;
    private static final int VOID = 5;

    private static void states(FareLattice x, String what, int booking, int... want) {
        for (int i = 0; i < want.length; i++) {
            CHECK.same(what + ", coupon " + i + " of " + booking, want[i], x.coupon(booking, i) % 10);
        }
        CHECK.index(what + ", no more coupons of " + booking, () -> x.coupon(booking, want.length));
    }

    /** A leg on the day 2. */
    private static int on2(FareLattice x, int from, int to, int hour, int length) {
        return Networks.once(x, from, to, hour, length, 9, 2);
    }

    /** One ticketed person on the leg 2 from 0 to 1 at 12 for 2 hours, the departure being at 60. */
    private static FareLattice onePerson() {
        FareLattice x = new FareLattice();
        on2(x, 0, 1, 12, 2);
        x.fare(-1, 0, 1, 0, 10);
        Networks.ticketed(x, 1, -1, 2);
        return x;
    }

    /** One ticketed person on three legs of the day 2 that follow one another: 0 to 1 at 0, 1 to 2 at 8, 2 to 3 at 16. */
    private static FareLattice threeLegs() {
        FareLattice x = new FareLattice();
        for (int i = 0; i < 3; i++) {
            on2(x, i, i + 1, 8 * i, 2);
        }
        x.fare(-1, 0, 3, 0, 100);
        Networks.ticketed(x, 1, -1, 2, 102, 202);
        return x;
    }

    /** Cancels the leg of a coupon of the booking 0 and repairs: the leg to which it is moved, or -1 if it is VOID. */
    private static int moved(FareLattice x, int coupon) {
        x.cancelLeg(x.coupon(0, coupon) / 100);
        x.repair();
        return x.coupon(0, coupon) % 10 == VOID ? -1 : x.coupon(0, coupon + 1) / 100;
    }

    // ---- which way

    private static void ways() {
        DOC.in("Bad days");
        DOC.asks("To move a coupon on, of a booking: of all ways of one or two legs", EdgeBadDaysTest::oneOrTwoLegs);
        DOC.asks(", neither cancelled nor departed", EdgeBadDaysTest::neitherCancelledNorDeparted);
        DOC.asks(", and each another one than that of the coupon", EdgeBadDaysTest::anotherOneThanItsOwn);
        DOC.asks(", and than those of other coupons of the booking that are neither MOVED nor VOID", EdgeBadDaysTest::anotherOneThanOthers);
        DOC.asks(", from where its leg begins to where that ends", () -> {
            FareLattice x = onePerson();
            on2(x, 1, 0, 14, 2);
            on2(x, 0, 2, 14, 2);
            on2(x, 2, 0, 18, 2);
            on2(x, 3, 1, 18, 2);
            CHECK.same("others are no ways", -1, moved(x, 0));
            FareLattice y = onePerson();
            int way = on2(y, 0, 1, 20, 2);
            CHECK.same("one is", way, moved(y, 0));
        });
        DOC.asks(": that depart not earlier than now and 1 hour", EdgeBadDaysTest::notEarlierThanNowAndOne);
        DOC.asks(", at least 1 hour behind the arrival of the leg of the coupon ahead of it", EdgeBadDaysTest::behindTheOneAhead);
        DOC.asks(", and at most 48 hours behind the departure of its own leg", EdgeBadDaysTest::atMost48Hours);
        DOC.asks("; with at least 1 hour between two legs", EdgeBadDaysTest::hourBetweenTwo);
        DOC.asks("; that arrive at least 1 hour ahead of the departure of the leg of the coupon behind it",
            EdgeBadDaysTest::aheadOfTheOneBehind);
        DOC.asks("; and on each leg of which as many seats are open in the bucket 0 as the booking has persons",
            EdgeBadDaysTest::seatsOnEachLeg);
        DOC.asks(": the one that arrives first", EdgeBadDaysTest::arrivesFirst);
        DOC.asks(", of several the one with fewer legs", EdgeBadDaysTest::fewerLegs);
        DOC.asks(", then that whose first leg has the lower number", EdgeBadDaysTest::lowerFirstLeg);
        DOC.asks(", then the second one.", EdgeBadDaysTest::lowerSecondLeg);
        DOC.asks("(The coupons ahead and behind are the nearest ones that are neither MOVED nor VOID.)", EdgeBadDaysTest::nearestOnes);
        DOC.asks("The coupon becomes MOVED, and coupons for these legs, OPEN, in the bucket 0, are put behind it", EdgeBadDaysTest::putBehindIt);
        DOC.asks("; if there is no way", () -> {
            FareLattice x = onePerson();
            x.cancelLeg(2);
            CHECK.same("VOID", 1, x.repair());
            states(x, "no way", 0, VOID);
            CHECK.same("it is TICKETED still", 1011, x.booking(0));
            on2(x, 0, 1, 20, 2);
            CHECK.same("it stays so, though there is a way now", 0, x.repair());
        });
        DOC.asks(", or the booking would have more than 10 coupons", EdgeBadDaysTest::moreThanTen);
        DOC.asks(", it becomes VOID.", () -> {
            FareLattice x = threeLegs();
            x.cancelLeg(102);
            CHECK.same("one VOID", 1, x.repair());
            states(x, "that one alone", 0, OPEN, VOID, OPEN);
            CHECK.same("its leg and bucket stay", 10205, x.coupon(0, 1));
        });
    }

    private static void oneOrTwoLegs() {
        FareLattice x = onePerson();
        int one = on2(x, 0, 1, 18, 2);
        CHECK.same("one leg", one, moved(x, 0));
        FareLattice y = onePerson();
        int first = on2(y, 0, 2, 14, 1);
        int second = on2(y, 2, 1, 17, 1);
        CHECK.same("two legs", first, moved(y, 0));
        CHECK.same("and the second", 100 * second, y.coupon(0, 2));
        FareLattice z = onePerson();
        on2(z, 0, 2, 14, 1);
        on2(z, 2, 3, 16, 1);
        on2(z, 3, 1, 18, 1);
        CHECK.same("three legs are none", -1, moved(z, 0));
    }

    private static void neitherCancelledNorDeparted() {
        FareLattice x = onePerson();
        int cancelled = on2(x, 0, 1, 14, 2);
        int late = on2(x, 0, 1, 18, 2);
        x.cancelLeg(cancelled);
        CHECK.same("not one that is cancelled", late, moved(x, 0));
        FareLattice y = onePerson();
        on2(y, 0, 2, 14, 1);
        y.cancelLeg(on2(y, 2, 1, 16, 1));
        CHECK.same("nor as the second of two", -1, moved(y, 0));
        FareLattice z = onePerson();
        int departed = on2(z, 0, 1, 2, 2);
        int next = on2(z, 0, 1, 3, 2);
        z.pass(50);
        CHECK.same("nor one that has departed", 1, z.standing(departed));
        CHECK.same("but one that is ahead", next, moved(z, 0));
    }

    private static void anotherOneThanItsOwn() {
        FareLattice x = new FareLattice();
        on2(x, 0, 1, 8, 2);
        on2(x, 1, 2, 11, 2);
        x.fare(-1, 0, 2, 0, 10);
        Networks.ticketed(x, 1, -1, 2, 102);
        x.delay(2, 1);
        x.delay(2, 1);
        x.delay(102, 1);
        CHECK.same("its own departs as the one ahead arrives, and no other one does", 1, x.repair());
        states(x, "so it is VOID", 0, OPEN, VOID);
        FareLattice y = new FareLattice();
        on2(y, 0, 1, 8, 2);
        on2(y, 1, 2, 11, 2);
        y.fare(-1, 0, 2, 0, 10);
        Networks.ticketed(y, 1, -1, 2, 102);
        int other = on2(y, 1, 2, 12, 2);
        y.delay(2, 1);
        CHECK.same("another one does", 100, y.repair());
        CHECK.same("the other one", 100 * other, y.coupon(0, 2));
    }

    /** A person on legs out, back and out again, and one of the last leg alone; the first leg is delayed behind the second. */
    private static void anotherOneThanOthers() {
        FareLattice x = new FareLattice();
        int first = on2(x, 0, 1, 8, 1);
        int home = on2(x, 1, 0, 10, 1);
        int again = on2(x, 0, 1, 12, 1);
        x.fare(-1, 0, 1, 0, 10);
        x.fare(-1, 1, 0, 0, 10);
        Networks.ticketed(x, 1, -1, first, home, again);
        Networks.ticketed(x, 1, -1, again);
        x.delay(first, 8);
        x.pass(50);
        x.check(0, 1);
        x.pass(8);
        x.cancelLeg(again);
        CHECK.same("one of them has another way, one has none", 101, x.repair());
        states(x, "its other coupon is OPEN for that leg", 0, OPEN, FLOWN, VOID);
        states(x, "of the other booking none is", 1, MOVED, OPEN);
        anotherOneThanOthersAsTheSecond();
        FareLattice y = new FareLattice();
        on2(y, 0, 1, 8, 2);
        int tight = on2(y, 1, 2, 11, 2);
        int later = on2(y, 1, 2, 13, 2);
        y.fare(-1, 0, 2, 0, 10);
        Networks.ticketed(y, 1, -1, 2, tight);
        y.delay(2, 1);
        y.repair();
        CHECK.same("moved to the later one", 100 * later, y.coupon(0, 2));
        y.delay(tight, 1);
        y.cancelLeg(later);
        CHECK.same("back, as that coupon is MOVED", 100, y.repair());
        CHECK.same("to the first one", 100 * tight, y.coupon(0, 3));
        y.cancelLeg(tight);
        CHECK.same("then there is none", 1, y.repair());
        states(y, "in all", 0, OPEN, MOVED, MOVED, VOID);
    }

    /** The same, but the leg of the first coupon begins elsewhere, so that it is the second one of a way. */
    private static void anotherOneThanOthersAsTheSecond() {
        FareLattice x = new FareLattice();
        int first = on2(x, 2, 1, 8, 1);
        int home = on2(x, 1, 0, 10, 1);
        int again = on2(x, 0, 1, 12, 1);
        int there = on2(x, 0, 2, 13, 1);
        x.fare(-1, 2, 1, 0, 10);
        x.fare(-1, 1, 0, 0, 10);
        x.fare(-1, 0, 1, 0, 10);
        Networks.ticketed(x, 1, -1, first, home, again);
        Networks.ticketed(x, 1, -1, again);
        x.delay(first, 8);
        x.pass(50);
        x.check(0, 1);
        x.pass(8);
        x.cancelLeg(again);
        CHECK.same("one of them has a way of two legs, one has none", 101, x.repair());
        states(x, "its other coupon is OPEN for the second leg", 0, OPEN, FLOWN, VOID);
        states(x, "of the other booking none is", 1, MOVED, OPEN, OPEN);
        CHECK.same("by the first leg", 100 * there, x.coupon(1, 1));
        CHECK.same("and the second one", 100 * first, x.coupon(1, 2));
    }

    private static void notEarlierThanNowAndOne() {
        for (int ahead = 0; ahead <= 2; ahead++) {
            FareLattice x = onePerson();
            int way = on2(x, 0, 1, 6, 2);
            x.pass(54 - ahead);
            CHECK.same(ahead + " hours ahead of a way that departs ahead of its own leg", ahead == 0 ? -1 : way, moved(x, 0));
        }
        FareLattice y = new FareLattice();
        Networks.daily(y, 0, 1, 12, 2, 1);
        int atOnce = on2(y, 0, 1, 12, 1);
        int next = on2(y, 0, 1, 13, 2);
        Networks.limits(y, 0, 2);
        y.fare(-1, 0, 1, 0, 10);
        Networks.ticketed(y, 1, -1, 2);
        Networks.ticketed(y, 1, -1, 2);
        y.pass(59);
        y.check(0, 0);
        y.check(1, 0);
        y.pass(1);
        CHECK.same("who is denied goes on an hour later, not at the same hour", 100 * next, y.coupon(1, 1));
        CHECK.same("the other leg has departed", 1, y.standing(atOnce));
    }

    private static void behindTheOneAhead() {
        for (int hour = 1; hour <= 5; hour++) {
            FareLattice x = threeLegs();
            int way = on2(x, 1, 2, hour, 2);
            CHECK.same("at " + hour + " behind an arrival at 2", hour >= 3 ? way : -1, moved(x, 1));
        }
        FareLattice x = threeLegs();
        on2(x, 1, 2, 3, 2);
        x.delay(2, 1);
        CHECK.same("at 3 behind an arrival that is delayed to 3", -1, moved(x, 1));
        FareLattice y = threeLegs();
        int second = on2(y, 1, 2, 3, 2);
        y.pass(47);
        y.check(0, 0);
        y.pass(1);
        CHECK.same("also behind one that is FLOWN", second, moved(y, 1));
        states(y, "which stays", 0, FLOWN, MOVED, OPEN, OPEN);
        FareLattice z = threeLegs();
        on2(z, 1, 2, 2, 2);
        z.pass(48);
        CHECK.same("also behind one that is MISSED", -1, moved(z, 1));
        states(z, "which stays, too", 0, MISSED, VOID, OPEN);
    }

    private static void atMost48Hours() {
        for (int late = -1; late <= 1; late++) {
            FareLattice x = onePerson();
            int way = Networks.once(x, 0, 1, 12 + late, 2, 9, 4);
            CHECK.same(48 + late + " hours", late <= 0 ? way : -1, moved(x, 0));
            FareLattice y = onePerson();
            int first = Networks.once(y, 0, 2, 12 + late, 2, 9, 4);
            Networks.once(y, 2, 1, 12, 2, 9, 8);
            CHECK.same(48 + late + " hours to the first of two", late <= 0 ? first : -1, moved(y, 0));
            FareLattice z = onePerson();
            int later = Networks.once(z, 0, 1, 20 + late, 2, 9, 4);
            z.delay(2, 8);
            CHECK.same(48 + late + " hours behind its delayed departure", late <= 0 ? later : -1, moved(z, 0));
        }
    }

    private static void hourBetweenTwo() {
        for (int hour = 14; hour <= 18; hour++) {
            FareLattice x = onePerson();
            int first = on2(x, 0, 2, 14, 2);
            on2(x, 2, 1, hour, 1);
            CHECK.same("at " + hour + " behind an arrival at 16", hour >= 17 ? first : -1, moved(x, 0));
        }
        FareLattice x = onePerson();
        int first = on2(x, 0, 2, 14, 2);
        int next = on2(x, 2, 1, 17, 1);
        int late = on2(x, 2, 1, 19, 1);
        x.delay(first, 1);
        CHECK.same("with a delay", first, moved(x, 0));
        CHECK.same("the next one is too soon", 100 * late, x.coupon(0, 2));
        CHECK.same("by that hour", 0, x.standing(next));
    }

    private static void aheadOfTheOneBehind() {
        for (int length = 4; length <= 6; length++) {
            FareLattice x = threeLegs();
            int way = on2(x, 1, 2, 10, length);
            CHECK.same("an arrival at " + (10 + length) + " ahead of 16", length <= 5 ? way : -1, moved(x, 1));
            FareLattice y = threeLegs();
            int first = on2(y, 1, 4, 9, 1);
            on2(y, 4, 2, 11, length - 1);
            CHECK.same("of two legs at " + (10 + length), length <= 5 ? first : -1, moved(y, 1));
        }
        FareLattice x = threeLegs();
        int way = on2(x, 1, 2, 10, 6);
        x.delay(202, 1);
        CHECK.same("an arrival at 16 ahead of a departure that is delayed to 17", way, moved(x, 1));
        FareLattice y = threeLegs();
        int free = on2(y, 2, 3, 11, 20);
        CHECK.same("behind the last one there is none", free, moved(y, 2));
        FareLattice z = threeLegs();
        on2(z, 1, 2, 10, 6);
        z.cancelLeg(102);
        z.cancelLeg(202);
        CHECK.same("the one behind counts also while its leg is cancelled", 2, z.repair());
        states(z, "so both are VOID", 0, OPEN, VOID, VOID);
    }

    private static void seatsOnEachLeg() {
        for (int persons = 8; persons <= 9; persons++) {
            FareLattice x = new FareLattice();
            on2(x, 0, 1, 12, 2);
            x.fare(-1, 0, 1, 0, 10);
            Networks.ticketed(x, persons, -1, 2);
            int way = on2(x, 0, 1, 14, 1);
            for (int bucket = 1; bucket < 4; bucket++) {
                x.limit(way / 100, bucket, 0);
            }
            x.limit(way / 100, 0, 8);
            CHECK.same(persons + " persons, 8 seats in the bucket 0 alone", persons == 8 ? way : -1, moved(x, 0));
        }
        for (int tight = 0; tight < 2; tight++) {
            for (int seats = 2; seats <= 3; seats++) {
                FareLattice x = new FareLattice();
                int second = on2(x, 2, 1, 17, 1);
                int own = on2(x, 0, 1, 12, 2);
                int[] legs = {on2(x, 0, 2, 14, 1), second};
                x.fare(-1, 0, 1, 0, 10);
                Networks.ticketed(x, 3, -1, own);
                x.limit(legs[tight] / 100, 0, seats);
                x.limit(legs[tight] / 100, 1, 0);
                CHECK.same("3 persons, " + seats + " seats on leg " + tight + " of the way", seats == 3 ? legs[0] : -1, moved(x, 0));
            }
        }
        FareLattice x = onePerson();
        Networks.ticketed(x, 1, -1, 2);
        int last = Networks.once(x, 0, 1, 14, 1, 1, 2);
        CHECK.same("the first takes the last seat", last, moved(x, 0));
        states(x, "so the second has none", 1, VOID);
    }

    private static void arrivesFirst() {
        FareLattice x = onePerson();
        on2(x, 0, 1, 13, 8);
        int fast = on2(x, 0, 1, 18, 2);
        CHECK.same("20 ahead of 21, though it departs later", fast, moved(x, 0));
        FareLattice y = onePerson();
        on2(y, 0, 1, 13, 8);
        int first = on2(y, 0, 2, 14, 2);
        on2(y, 2, 1, 18, 2);
        CHECK.same("20 by two legs", first, moved(y, 0));
        FareLattice z = onePerson();
        on2(z, 0, 1, 18, 2);
        int early = on2(z, 0, 1, 13, 6);
        z.delay(102, 1);
        CHECK.same("19 ahead of a delayed 21", early, moved(z, 0));
        FareLattice v = new FareLattice();
        Networks.daily(v, 0, 1, 12, 2, 9);
        v.fare(-1, 0, 1, 0, 10);
        Networks.ticketed(v, 1, -1, 5);
        CHECK.same("the first day of a flight, far ahead of its own", 0, moved(v, 0));
    }

    private static void fewerLegs() {
        FareLattice x = onePerson();
        int first = on2(x, 0, 2, 13, 2);
        on2(x, 2, 1, 17, 3);
        int one = on2(x, 0, 1, 18, 2);
        CHECK.same("one leg, though with a greater number", one, moved(x, 0));
        CHECK.isTrue("the number is greater", one > first);
        FareLattice y = onePerson();
        int single = on2(y, 0, 1, 18, 2);
        on2(y, 0, 2, 13, 2);
        on2(y, 2, 1, 17, 3);
        CHECK.same("one leg with a lower number", single, moved(y, 0));
    }

    private static void lowerFirstLeg() {
        FareLattice x = onePerson();
        int low = on2(x, 0, 1, 18, 2);
        on2(x, 0, 1, 14, 6);
        CHECK.same("of one leg", low, moved(x, 0));
        FareLattice y = onePerson();
        on2(y, 3, 1, 17, 3);
        int lower = on2(y, 0, 2, 13, 2);
        on2(y, 0, 3, 13, 2);
        int second = on2(y, 2, 1, 17, 3);
        CHECK.same("of two, though the second one is greater", lower, moved(y, 0));
        CHECK.same("the second one", 100 * second, y.coupon(0, 2));
        FareLattice z = onePerson();
        z.flight(0, 0, 2, 12, 2, 9);
        z.days(1, 1, 3, 127);
        Networks.once(z, 2, 1, 18, 2, 9, 3);
        CHECK.same("of the days of one flight that reach it, the first", 101, moved(z, 0));
    }

    private static void lowerSecondLeg() {
        FareLattice x = onePerson();
        int first = on2(x, 0, 2, 13, 2);
        int low = on2(x, 2, 1, 18, 2);
        on2(x, 2, 1, 17, 3);
        CHECK.same("the same first one", first, moved(x, 0));
        CHECK.same("the lower second one", 100 * low, x.coupon(0, 2));
    }

    private static void nearestOnes() {
        FareLattice x = threeLegs();
        x.cancelLeg(102);
        x.repair();
        states(x, "the second is VOID", 0, OPEN, VOID, OPEN);
        on2(x, 2, 3, 2, 1);
        int third = on2(x, 2, 3, 3, 1);
        CHECK.same("1 hour behind the first one, at 2", third, moved(x, 2));
        FareLattice y = threeLegs();
        int later = on2(y, 1, 2, 10, 2);
        y.cancelLeg(102);
        y.repair();
        states(y, "the second is MOVED", 0, OPEN, MOVED, OPEN, OPEN);
        on2(y, 0, 1, 8, 2);
        int until = on2(y, 0, 1, 7, 2);
        CHECK.same("1 hour ahead of the one behind that which is MOVED", until, moved(y, 0));
        CHECK.same("the second is at 10 now", 100 * later, y.coupon(0, 3));
        FareLattice z = threeLegs();
        z.cancelLeg(102);
        z.cancelLeg(202);
        z.repair();
        states(z, "the second and third are VOID", 0, OPEN, VOID, VOID);
        int free = on2(z, 0, 1, 20, 20);
        CHECK.same("none is behind", free, moved(z, 0));
        FareLattice v = threeLegs();
        v.cancelLeg(2);
        v.cancelLeg(102);
        v.repair();
        states(v, "the first and second are VOID", 0, VOID, VOID, OPEN);
        int early = Networks.once(v, 2, 3, 5, 2, 9, 0);
        CHECK.same("none is ahead", early, moved(v, 2));
    }

    private static void putBehindIt() {
        FareLattice x = new FareLattice();
        on2(x, 0, 1, 0, 2);
        on2(x, 1, 2, 8, 2);
        x.fare(-1, 0, 2, 3, 100);
        Networks.ticketed(x, 1, -1, 2, 102);
        int first = on2(x, 0, 4, 1, 1);
        int second = on2(x, 4, 1, 3, 1);
        x.pass(40);
        x.check(0, 0);
        x.cancelLeg(2);
        CHECK.same("one is MOVED", 100, x.repair());
        states(x, "in their places", 0, MOVED, OPEN, OPEN, OPEN);
        CHECK.same("as it was, but MOVED", 230 + MOVED, x.coupon(0, 0));
        CHECK.same("the first, in the bucket 0", 100 * first, x.coupon(0, 1));
        CHECK.same("the second, in the bucket 0", 100 * second, x.coupon(0, 2));
        CHECK.same("the last one as it was", 10230, x.coupon(0, 3));
        CHECK.same("4 coupons", 1041, x.booking(0));
        CHECK.same("the seat of the bucket 0 is sold", 8, x.open(first, 0));
        x.pass(8);
        states(x, "what was CHECKED has to be checked in again", 0, MOVED, OPEN, OPEN, OPEN);
    }

    /** A person on leg 2 and three more legs, with more legs for the first one, an hour apart, and a way of two at the end. */
    private static FareLattice manyWays(int ways) {
        FareLattice x = new FareLattice();
        for (int i = 0; i <= ways; i++) {
            on2(x, 0, 1, i, 1);
        }
        int behind = on2(x, 1, 3, 20, 1);
        int third = Networks.once(x, 3, 0, 20, 1, 9, 3);
        int fourth = Networks.once(x, 0, 3, 20, 1, 9, 4);
        x.fare(-1, 0, 3, 0, 10);
        x.fare(-1, 3, 0, 0, 10);
        Networks.ticketed(x, 1, -1, 2, behind, third, fourth);
        return x;
    }

    private static void moreThanTen() {
        FareLattice x = manyWays(7);
        for (int i = 0; i < 6; i++) {
            CHECK.same("4 coupons and " + (i + 1), 100 * (i + 1) + 2, moved(x, i));
        }
        CHECK.same("10 coupons", 1101, x.booking(0));
        CHECK.same("an eleventh is none", -1, moved(x, 6));
        CHECK.same("10 coupons still", 1101, x.booking(0));
        states(x, "the seventh is VOID", 0, MOVED, MOVED, MOVED, MOVED, MOVED, MOVED, VOID, OPEN, OPEN, OPEN);
        for (int ways = 4; ways <= 5; ways++) {
            FareLattice y = manyWays(ways);
            int first = on2(y, 0, 2, 7, 1);
            on2(y, 2, 1, 9, 1);
            for (int i = 0; i < ways; i++) {
                moved(y, i);
            }
            CHECK.same(4 + ways + " coupons", 1001 + 10 * (4 + ways), y.booking(0));
            CHECK.same("two more, by a way of two legs", ways == 4 ? first : -1, moved(y, ways));
            CHECK.same("so many then", 1001 + 10 * (ways == 4 ? 10 : 9), y.booking(0));
        }
    }

    // ---- repair

    private static void repairs() {
        DOC.asks("To repair: all bookings that are TICKETED", EdgeBadDaysTest::whatIsTicketed);
        DOC.asks(", those of members of higher tiers first", EdgeBadDaysTest::higherTiersFirst);
        DOC.asks(", then by rising numbers", () -> {
            FareLattice x = onePerson();
            for (int i = 1; i < 5; i++) {
                Networks.ticketed(x, 1, i % 2 == 0 ? i : -1, 2);
            }
            Networks.once(x, 0, 1, 14, 1, 3, 2);
            x.cancelLeg(2);
            CHECK.same("three seats", 302, x.repair());
            for (int i = 0; i < 5; i++) {
                CHECK.same("booking " + i, i < 3 ? MOVED : VOID, x.coupon(i, 0) % 10);
            }
        });
        DOC.asks(", and of each all coupons in order, also those that were put in", EdgeBadDaysTest::allCouponsInOrder);
        DOC.asks(": one that is OPEN or CHECKED", EdgeBadDaysTest::openOrChecked);
        DOC.asks("(also if its leg has departed while it was held) is moved on", EdgeBadDaysTest::departedWhileHeld);
        DOC.asks(", if its leg is cancelled", () -> {
            FareLattice x = threeLegs();
            CHECK.same("none is", 0, x.repair());
            x.delay(202, 8);
            CHECK.same("a delay alone is nothing", 0, x.repair());
            x.delay(202, 1);
            CHECK.same("one that a delay has cancelled", 1, x.repair());
            x.cancelLeg(102);
            x.cancelLeg(2);
            CHECK.same("two", 2, x.repair());
        });
        DOC.asks(", or departs less than 1 hour behind the arrival of the leg of the coupon ahead of it", () -> {
            for (int hours = 1; hours <= 8; hours++) {
                FareLattice x = threeLegs();
                x.delay(102, hours);
                CHECK.same("10 and " + hours + " ahead of 16", 10 + hours + 1 <= 16 ? 0 : 1, x.repair());
                states(x, "by " + hours, 0, OPEN, OPEN, 10 + hours + 1 <= 16 ? OPEN : VOID);
            }
        });
        DOC.asks("(the nearest one as above).", EdgeBadDaysTest::nearestToRepair);
        DOC.asks("What is held with a leg that is cancelled is cancelled when that is.", EdgeBadDaysTest::heldIsCancelled);
    }

    private static void whatIsTicketed() {
        FareLattice x = onePerson();
        Networks.once(x, 0, 1, 14, 1, 9, 2);
        Networks.draft(x, 102);
        x.hold(1, -1, 1);
        x.cancel(Networks.ticketed(x, 1, -1, 2));
        x.pass(1);
        x.cancelLeg(2);
        CHECK.same("one is", 100, x.repair());
        states(x, "LAPSED", 1, VOID);
        states(x, "CANCELLED", 2, VOID);
        FareLattice y = new FareLattice();
        on2(y, 0, 1, 8, 2);
        on2(y, 1, 2, 11, 2);
        y.fare(-1, 0, 2, 0, 10);
        Networks.held(y, 1, -1, 2, 102);
        y.delay(2, 1);
        CHECK.same("HELD is not", 0, y.repair());
        y.ticket(0);
        CHECK.same("TICKETED now", 1, y.repair());
    }

    private static void higherTiersFirst() {
        FareLattice x = new FareLattice();
        int far = Networks.once(x, 2, 3, 0, 20, 60, 1);
        int left = Networks.once(x, 0, 1, 12, 1, 60, 5);
        x.fare(0, 2, 3, 0, 10);
        x.fare(0, 0, 1, 0, 10);
        int[] persons = {3, 5, 8};
        for (int i = 0; i < 3; i++) {
            Networks.ticketed(x, persons[i], 1 + i, far);
        }
        int[] members = {-1, 0, 1, 2, 3, 4};
        for (int member : members) {
            Networks.ticketed(x, 1, member, left);
        }
        x.pass(1);
        for (int i = 0; i < 3; i++) {
            x.check(i, 0);
        }
        Networks.passTo(x, 1, 60);
        int[] order = {7, 6, 5, 3, 4, 8};
        x.cancelLeg(left);
        int before = x.flight(0, 0, 1, 18, 1, 4);
        x.days(before, 5, 5, 127);
        CHECK.same("four seats for six", 402, x.repair());
        for (int i = 0; i < 6; i++) {
            CHECK.same("booking " + order[i], i < 4 ? MOVED : VOID, x.coupon(order[i], 0) % 10);
        }
    }

    private static void allCouponsInOrder() {
        FareLattice x = threeLegs();
        for (int i = 0; i < 3; i++) {
            on2(x, i, i + 1, 8 * i + 1, 2);
            x.cancelLeg(100 * i + 2);
        }
        CHECK.same("all three", 300, x.repair());
        states(x, "each with one behind it", 0, MOVED, OPEN, MOVED, OPEN, MOVED, OPEN);
        x.cancelLeg(302);
        on2(x, 0, 1, 4, 2);
        x.delay(402, 6);
        CHECK.same("those that were put in, for the leg and for the hour", 101, x.repair());
        states(x, "in all", 0, MOVED, MOVED, OPEN, MOVED, OPEN, MOVED, VOID);
        // the first one is moved behind what was the second one's hour only if that is not there any more
        FareLattice y = threeLegs();
        int late = on2(y, 0, 1, 6, 2);
        y.cancelLeg(2);
        y.cancelLeg(102);
        CHECK.same("the first has none ahead of the second, which is asked later", 2, y.repair());
        states(y, "so both are VOID", 0, VOID, VOID, OPEN);
        CHECK.same("though there was one", 0, y.standing(late));
    }

    private static void openOrChecked() {
        for (int state = OPEN; state <= CHECKED; state++) {
            FareLattice x = onePerson();
            int way = on2(x, 0, 1, 14, 1);
            x.pass(40);
            if (state == CHECKED) {
                x.check(0, 0);
            }
            CHECK.same("in the state " + state, way, moved(x, 0));
        }
        FareLattice x = new FareLattice();
        on2(x, 0, 1, 8, 2);
        on2(x, 1, 2, 11, 2);
        x.fare(-1, 0, 2, 0, 10);
        Networks.ticketed(x, 1, -1, 2, 102);
        Networks.ticketed(x, 1, -1, 2, 102);
        x.delay(2, 8);
        x.pass(50);
        x.check(0, 1);
        x.pass(10);
        states(x, "FLOWN ahead of the arrival of the leg ahead", 0, OPEN, FLOWN);
        states(x, "MISSED ahead of it", 1, OPEN, MISSED);
        CHECK.same("neither is moved", 0, x.repair());
    }

    private static void departedWhileHeld() {
        FareLattice x = new FareLattice();
        Networks.daily(x, 0, 1, 8, 2, 9);
        Networks.daily(x, 1, 2, 11, 2, 9);
        x.fare(-1, 0, 2, 0, 10);
        Networks.held(x, 1, -1, 1, 101);
        Networks.held(x, 1, -1, 1, 101);
        x.delay(1, 1);
        x.pass(36);
        x.ticket(0);
        CHECK.same("both legs have departed", 2, x.standing(1) % 10 + x.standing(101));
        CHECK.same("the second one departed too soon", 100, x.repair());
        states(x, "it is moved on", 0, OPEN, MOVED, OPEN);
        CHECK.same("to the next day", 10200, x.coupon(0, 2));
        states(x, "what is HELD still is not", 1, OPEN, OPEN);
        FareLattice y = onePerson();
        Networks.held(y, 1, -1, 2);
        on2(y, 0, 1, 20, 1);
        y.pass(61);
        y.ticket(1);
        CHECK.same("one that departed at its hour is left alone", 0, y.repair());
        states(y, "it is OPEN", 1, OPEN);
    }

    private static void nearestToRepair() {
        FareLattice x = threeLegs();
        x.cancelLeg(102);
        x.repair();
        x.delay(2, 8);
        CHECK.same("behind one that is VOID, of an arrival at 10", 0, x.repair());
        FareLattice y = new FareLattice();
        on2(y, 0, 1, 0, 2);
        on2(y, 1, 2, 3, 2);
        on2(y, 2, 3, 6, 2);
        y.fare(-1, 0, 3, 0, 10);
        Networks.ticketed(y, 1, -1, 2, 102, 202);
        y.cancelLeg(102);
        y.repair();
        y.delay(2, 3);
        CHECK.same("of an arrival at 5", 0, y.repair());
        y.delay(2, 1);
        CHECK.same("of an arrival at 6", 1, y.repair());
        states(y, "the first alone is left", 0, OPEN, VOID, VOID);
        FareLattice z = threeLegs();
        int put = on2(z, 1, 2, 10, 2);
        z.cancelLeg(102);
        z.repair();
        z.delay(put, 4);
        CHECK.same("behind one that was put in, of an arrival at 16", 1, z.repair());
        states(z, "the last one is VOID", 0, OPEN, MOVED, OPEN, VOID);
    }

    private static void heldIsCancelled() {
        FareLattice x = threeLegs();
        Networks.held(x, 1, -1, 2, 102, 202);
        Networks.held(x, 1, -1, 2, 102, 202);
        Networks.draft(x, 2, 102, 202);
        x.wish(1, -1);
        x.clear();
        x.ticket(2);
        x.delay(202, 8);
        CHECK.same("a delay is nothing", 31, x.booking(1));
        CHECK.same("the two ticketed ones alone are told", 2, x.cancelLeg(202));
        for (int booking = 1; booking <= 3; booking++) {
            CHECK.same("booking " + booking, booking == 2 ? 1031 : 3031, x.booking(booking));
        }
        states(x, "all its coupons are VOID", 1, VOID, VOID, VOID);
        states(x, "those of the ticketed one are not", 2, OPEN, OPEN, OPEN);
        CHECK.state("it can't be ticketed any more", () -> x.ticket(1));
        FareLattice y = new FareLattice();
        on2(y, 0, 1, 12, 2);
        on2(y, 0, 1, 14, 2);
        y.fare(-1, 0, 1, 0, 10);
        int[] legs = {2, 102, 2};
        for (int leg : legs) {
            Networks.held(y, 1, -1, leg);
        }
        y.delay(2, 8);
        CHECK.same("HELD with a delay of 8", 11, y.booking(0));
        y.delay(2, 1);
        CHECK.same("CANCELLED with the leg that a delay cancels", 3011, y.booking(0));
        CHECK.same("what is held with another leg stays", 11, y.booking(1));
        CHECK.same("the last one is CANCELLED, too", 3011, y.booking(2));
    }

    // ---- shares

    private static void shares() {
        DOC.in("Shares");
        DOC.asks("The amount of a stretch is shared over its legs by their lengths: each gets amount * its length / the length of all, "
            + "rounded down, and the last one what is left besides.", EdgeBadDaysTest::byLengths);
        DOC.asks("When a coupon is FLOWN, the carrier of its leg earns its share for each person", EdgeBadDaysTest::earnedWhenFlown);
        DOC.asks("; coupons that were put in for a moved one: the first of these has the share of that, and the tax that was paid at its "
            + "departure, the second one 0 of both", EdgeBadDaysTest::shareOfPutIn);
        DOC.asks("; the moved one has nothing then.", () -> {
            FareLattice x = onePerson();
            x.setTax(0, 100);
            on2(x, 0, 1, 14, 2);
            CHECK.same("its share", 10, x.share(0, 0));
            moved(x, 0);
            CHECK.same("nothing", 0, x.share(0, 0));
            x.cancel(0);
            CHECK.same("nothing when it is cancelled", 0, x.share(0, 0));
        });
        DOC.asks("All of them are of its stretch.", EdgeBadDaysTest::ofItsStretch);
        DOC.asks("The seller of a booking is the carrier of the first leg of its journey", EdgeBadDaysTest::sellerOfTheFirstLeg);
        DOC.asks("; it owes to other carriers what they earn of it.", EdgeBadDaysTest::owedToOthers);
    }

    private static void byLengths() {
        int[][] lengths = {{1}, {1, 1}, {1, 20}, {20, 1}, {3, 3, 3}, {1, 2, 3, 4}};
        int[] amounts = {1, 2, 20, 21, 22, 100, 5000};
        for (int[] row : lengths) {
            for (int amount : amounts) {
                FareLattice x = new FareLattice();
                int[] legs = new int[row.length];
                int all = 0;
                int left = amount;
                for (int i = 0; i < row.length; i++) {
                    legs[i] = Networks.once(x, i, i + 1, 0, row[i], 9, 1 + i);
                    all += row[i];
                }
                x.fare(-1, 0, row.length, 0, amount);
                Networks.held(x, 9, -1, legs);
                for (int i = 0; i < row.length; i++) {
                    int due = i == row.length - 1 ? left : amount * row[i] / all;
                    left -= due;
                    CHECK.same(amount + " over " + row.length + ", leg " + i, due, x.share(0, i));
                }
            }
        }
        FareLattice x = new FareLattice();
        for (int i = 0; i < 3; i++) {
            on2(x, i, i + 1, 4 * i, i + 1);
        }
        x.fare(-1, 0, 2, 0, 10);
        x.fare(-1, 2, 3, 0, 7);
        Networks.held(x, 1, -1, 2, 102, 202);
        CHECK.same("of the first stretch, 1 of 3", 3, x.share(0, 0));
        CHECK.same("and what is left of it", 7, x.share(0, 1));
        CHECK.same("all of the second", 7, x.share(0, 2));
    }

    private static void earnedWhenFlown() {
        FareLattice x = new FareLattice();
        x.flight(2, 0, 1, 12, 1, 60);
        x.days(0, 2, 2, 127);
        x.fare(-1, 0, 1, 0, 5000);
        for (int i = 0; i < 4; i++) {
            Networks.ticketed(x, 9 - i, -1, 2);
        }
        x.cancel(3);
        x.pass(59);
        x.check(0, 0);
        x.check(1, 0);
        CHECK.same("nothing while it is CHECKED", 0, x.owed(2, 2));
        x.cancel(1);
        x.pass(1);
        CHECK.same("of 9; not of what is MISSED or CANCELLED", 45000, x.owed(2, 2));
        x.cancel(0);
        CHECK.same("it stays", 45000, x.owed(2, 2));
    }

    /** A person whose leg 2, of carrier 0, is cancelled, so that legs of the carriers 1 and 2 are put in; then one more way. */
    private static FareLattice putIn() {
        FareLattice x = new FareLattice();
        x.setTax(0, 40);
        x.setTax(1, 300);
        on2(x, 0, 1, 0, 2);
        on2(x, 1, 3, 20, 3);
        x.flight(1, 0, 2, 1, 1, 9);
        x.flight(2, 2, 1, 3, 1, 9);
        x.flight(2, 2, 1, 6, 1, 9);
        x.fare(-1, 0, 3, 0, 51);
        x.back(0, 100);
        for (int i = 2; i < 5; i++) {
            x.days(i, 2, 2, 127);
        }
        Networks.ticketed(x, 3, -1, 2, 102);
        x.cancelLeg(2);
        x.repair();
        return x;
    }

    private static void shareOfPutIn() {
        FareLattice x = putIn();
        int[] shares = {0, 20, 0, 31};
        for (int i = 0; i < 4; i++) {
            CHECK.same("the share " + i, shares[i], x.share(0, i));
        }
        x.cancelLeg(302);
        CHECK.same("the second one is moved once more", 100, x.repair());
        CHECK.same("to one that has nothing, too", 0, x.share(0, 3));
        CHECK.same("for its leg", 40200, x.coupon(0, 3));
        x.pass(40);
        x.check(0, 1);
        x.check(0, 3);
        x.part(0, 1);
        CHECK.same("all, and both taxes, which are paid once", 51 + 40 + 300, x.cancel(1));
        x.pass(9);
        CHECK.same("the first one earns the share of 2", 40, x.owed(0, 1));
        x.part(0, 1);
        CHECK.same("its tax has flown, the other leg's has not", 300, x.cancel(2));
        x.pass(9);
        CHECK.same("the second one earns 0", 0, x.owed(0, 2));
        states(x, "both have flown", 0, MOVED, FLOWN, MOVED, FLOWN, OPEN);
        FareLattice y = putIn();
        y.cancelLeg(202);
        CHECK.same("the first one has no other way", 1, y.repair());
        CHECK.same("VOID keeps the share", 20, y.share(0, 1));
        CHECK.same("and the taxes", 3 * (51 + 40 + 300), y.cancel(0));
    }

    private static void ofItsStretch() {
        FareLattice x = putIn();
        x.pass(40);
        x.check(0, 1);
        x.pass(9);
        states(x, "the first that was put in has flown", 0, MOVED, FLOWN, OPEN, OPEN);
        CHECK.same("so its stretch was begun", 3 * 300, x.cancel(0));
        FareLattice y = putIn();
        y.pass(51);
        states(y, "both were missed", 0, MOVED, MISSED, MISSED, OPEN);
        CHECK.same("so its stretch was begun, too", 3 * 300, y.cancel(0));
        FareLattice z = new FareLattice();
        on2(z, 0, 1, 0, 2);
        on2(z, 1, 2, 12, 2);
        on2(z, 0, 3, 4, 1);
        on2(z, 3, 1, 6, 1);
        z.fare(-1, 0, 1, 0, 20);
        z.fare(-1, 1, 2, 0, 30);
        Networks.ticketed(z, 1, -1, 2, 102);
        z.cancelLeg(2);
        z.repair();
        z.pass(54);
        states(z, "both were missed, again", 0, MOVED, MISSED, MISSED, OPEN);
        CHECK.same("the other stretch was not begun", 15, z.cancel(0));
    }

    private static void sellerOfTheFirstLeg() {
        for (int carrier = 0; carrier < 3; carrier++) {
            FareLattice x = new FareLattice();
            x.flight(carrier, 0, 1, 0, 1, 9);
            x.flight((carrier + 1) % 3, 1, 2, 3, 1, 9);
            x.flight((carrier + 2) % 3, 0, 1, 1, 1, 9);
            for (int i = 0; i < 3; i++) {
                x.days(i, 2, 2, 127);
            }
            x.fare(-1, 0, 2, 0, 20);
            x.fare((carrier + 1) % 3, 1, 2, 0, 6);
            Networks.ticketed(x, 1, -1, 2, 102);
            Networks.ticketed(x, 1, -1, 102);
            x.cancelLeg(2);
            x.repair();
            x.pass(40);
            x.check(0, 1);
            x.check(0, 2);
            x.check(1, 0);
            x.pass(20);
            int seller = carrier;
            CHECK.same("of the first leg, though it is cancelled", 10, x.owed(seller, (seller + 1) % 3));
            CHECK.same("to the one that flew in its place", 10, x.owed(seller, (seller + 2) % 3));
            CHECK.same("nothing by itself", 0, x.owed(seller, seller));
            CHECK.same("of its own first leg", 6, x.owed((seller + 1) % 3, (seller + 1) % 3));
        }
    }

    private static void owedToOthers() {
        FareLattice x = new FareLattice();
        for (int i = 0; i < 3; i++) {
            x.flight(i, i, i + 1, 4 * i, 1, 9);
            x.days(i, 2, 2, 127);
        }
        x.fare(-1, 0, 3, 0, 32);
        Networks.ticketed(x, 4, -1, 2, 102, 202);
        Networks.ticketed(x, 5, -1, 2, 102, 202);
        x.pass(47);
        for (int i = 0; i < 3; i++) {
            x.check(0, i);
        }
        x.check(1, 1);
        x.pass(20);
        int[] due = {40, 90, 48, 0, 0, 0, 0, 0, 0};
        for (int pair = 0; pair < 9; pair++) {
            CHECK.same("owed by " + pair / 3 + " to " + pair % 3, due[pair], x.owed(pair / 3, pair % 3));
        }
    }

    // ---- exceptions and constants

    private static void exceptions() {
        DOC.asks("IndexOutOfBoundsException is thrown for an airport, carrier, flight, leg, bucket, fare, booking, coupon, member or "
            + "stretch that does not exist", () -> EDGES.refused(INDEX, EdgeBadDaysTest::rich, x -> x.setTax(6, 0),
                x -> x.owed(3, 0), x -> x.limit(5, 0, 0), x -> x.departure(21), x -> x.open(2, 4), x -> x.back(4, 0),
                x -> x.ticket(6), x -> x.coupon(0, 9), x -> x.points(5), x -> x.stretch(1, 2), x -> x.wished(2)));
        DOC.asks("(a leg that the flight does not have on that day as well)", () ->
            EDGES.refuses(INDEX, EdgeBadDaysTest::rich, (x, leg) -> x.leg(leg), 203, 261, 299, 400, 460, 500, -1));
        DOC.asks("; IllegalArgumentException for another argument out of range", () ->
            EDGES.refused(ARGUMENT, EdgeBadDaysTest::rich, x -> x.setTax(0, 501), x -> x.limit(0, 0, 20), x -> x.back(0, 101),
                x -> x.delay(2, 9), x -> x.price(10), x -> x.priceAnew(0), x -> x.hold(10, 0, 1), x -> x.wish(0, 0),
                x -> x.part(0, 2), x -> x.pass(101), x -> x.days(4, 1, 0, 1), x -> x.link(0, 3, false)));
        DOC.asks("; and IllegalStateException if a call is not possible now.", () ->
            EDGES.refused(STATE, EdgeBadDaysTest::rich, x -> x.setZone(0, 0), x -> x.days(0, 0, 60, 127), x -> x.cancelLeg(0),
                x -> x.delay(102, 1), x -> x.leg(1), x -> x.hold(9, 0, 1), x -> x.ticket(0), x -> x.part(3, 1),
                x -> x.cancel(4), x -> x.check(1, 0)));
        DOC.asks("If several apply, IndexOutOfBoundsException goes first, then IllegalArgumentException.", EdgeBadDaysTest::whichGoesFirst);
        DOC.asks("A call that throws an exception changes nothing.", EdgeBadDaysTest::changesNothing);
        DOC.asks("The constants: `NONE = -1`: In place of a carrier, member or price.", EdgeBadDaysTest::none);
    }

    /**
     * Bookings 0 TICKETED and flown in part, 1 HELD, 2 TICKETED and CHECKED, 3 LAPSED, 4 CANCELLED and 5 HELD by the wish 1;
     * the wish 0 waits; links, a delay, a cancelled leg; the legs 3 and 103 are drafted; flight 4 has no days. The time is 30.
     */
    private static void rich(FareLattice x) {
        x.setTax(0, 5);
        Networks.daily(x, 0, 1, 0, 2, 9);
        Networks.daily(x, 1, 0, 4, 2, 9);
        x.flight(1, 1, 2, 5, 2, 9);
        x.days(2, 1, 2, 127);
        Networks.daily(x, 2, 0, 1, 20, 2, 1);
        x.flight(0, 0, 1, 0, 1, 1);
        x.link(0, 1, false);
        x.link(1, 0, true);
        x.fare(-1, 0, 1, 0, 100);
        x.fare(-1, 1, 0, 1, 90);
        x.fare(-1, 0, 2, 2, 80);
        x.fare(1, 1, 2, 3, 70);
        Networks.ticketed(x, 2, 0, 1, 202);
        Networks.held(x, 3, 1, 3, 103);
        Networks.ticketed(x, 2, 2, 2, 202);
        Networks.draft(x, 2);
        x.hold(2, -1, 1);
        x.cancel(Networks.held(x, 1, -1, 4));
        x.volunteer(2);
        x.pass(20);
        x.check(0, 0);
        Networks.draft(x, 302);
        x.wish(2, 3);
        Networks.draft(x, 303);
        x.wish(1, 4);
        x.clear();
        x.pass(10);
        x.cancelLeg(102);
        x.delay(2, 2);
        x.check(2, 0);
        x.limit(3, 1, 4);
        Networks.draft(x, 3, 103);
    }

    /** Rules of the fare in question that are out of range, or not. */
    private static int rules(FareLattice x, int fare, int last) {
        x.rules(fare, 0, last, 0, false, 0, false);
        return 0;
    }

    private static void whichGoesFirst() {
        EDGES.refused(INDEX, EdgeBadDaysTest::rich, x -> x.setZone(6, 15), x -> x.setZone(-1, 0), x -> x.setTax(-1, -1),
            x -> x.flight(3, 0, 0, 24, 0, 0), x -> x.days(5, 5, 4, 0), x -> x.limit(5, 4, -1), x -> x.limit(0, 4, 99),
            x -> x.fare(-2, 0, 0, 0, 0), x -> x.fare(0, 0, 0, 4, 0), x -> rules(x, 4, 62), x -> x.back(-1, 101),
            x -> x.delay(21, 9), x -> x.hold(0, 5, 0), x -> x.hold(9, -2, 1), x -> x.wish(10, 5), x -> x.part(6, 0),
            x -> x.check(3, 1), x -> x.check(4, -1));
        EDGES.refused(ARGUMENT, EdgeBadDaysTest::rich, x -> x.setZone(0, 15), x -> x.days(0, 5, 4, 1), x -> x.days(0, 0, 60, 128),
            x -> x.delay(102, 0), x -> x.delay(0, 9), x -> x.hold(9, 0, 73), x -> x.hold(10, 0, 1), x -> x.part(3, 2),
            x -> x.part(4, 1));
        EDGES.refused(ARGUMENT, EdgeBadDaysTest::rich, x -> x.stretch(0, 2), x -> x.stretch(10, -1));
    }

    /** Each call that can be refused, once at least. */
    private static void changesNothing() {
        EDGES.refused(INDEX, EdgeBadDaysTest::rich, x -> x.setZone(6, 1), x -> x.setTax(6, 1), x -> x.flight(3, 0, 1, 0, 1, 1),
            x -> x.days(5, 0, 60, 127), x -> x.limit(0, 4, 1), x -> x.link(0, 5, true), x -> x.link(5, 0, true),
            x -> x.fare(3, 0, 1, 0, 1), x -> rules(x, 4, 61), x -> x.back(4, 1), x -> x.departure(203), x -> x.standing(203),
            x -> x.open(203, 0), x -> x.load(203), x -> x.cancelLeg(203), x -> x.delay(203, 1), x -> x.leg(203),
            x -> x.stretch(1, 2), x -> x.hold(1, 5, 1), x -> x.wish(1, 5), x -> x.wished(2), x -> x.ticket(6), x -> x.part(6, 1),
            x -> x.cancel(6), x -> x.booking(6), x -> x.coupon(0, 2), x -> x.share(0, 2), x -> x.check(0, 2),
            x -> x.volunteer(6) ? 1 : 0, x -> x.points(5), x -> x.owed(0, 3));
        EDGES.refused(ARGUMENT, EdgeBadDaysTest::rich, x -> x.setZone(0, 15), x -> x.setTax(0, 501),
            x -> x.flight(0, 0, 1, 24, 1, 1), x -> x.days(4, 0, 61, 127), x -> x.limit(0, 0, 20), x -> x.link(0, 0, true),
            x -> x.fare(0, 0, 1, 0, 5001), x -> rules(x, 0, 62), x -> x.back(0, 101), x -> x.delay(3, 9), x -> x.price(10),
            x -> x.priceAnew(10), x -> x.stretch(10, 0), x -> x.hold(1, 0, 73), x -> x.wish(10, 0), x -> x.part(0, 2),
            x -> x.pass(101));
        EDGES.refused(STATE, EdgeBadDaysTest::rich, x -> x.setZone(0, 1), x -> x.days(0, 0, 60, 127), x -> x.cancelLeg(1),
            x -> x.delay(1, 1), x -> x.leg(3), x -> x.hold(9, 0, 1), x -> x.ticket(2), x -> x.part(3, 1), x -> x.cancel(3),
            x -> x.check(0, 0));
        EDGES.refused(STATE, x -> {
            rich(x);
            for (int i = 0; i < 12; i++) {
                addOneMore(x);
            }
            x.dropLegs();
        }, x -> x.flight(0, 0, 1, 0, 1, 1), x -> x.fare(0, 0, 1, 0, 1), x -> x.wish(1, 0));
    }

    /** A flight and a fare, as long as there are fewer than can be. */
    private static void addOneMore(FareLattice x) {
        Check.told(() -> x.flight(0, 0, 1, 0, 1, 1));
        Check.told(() -> x.fare(0, 0, 1, 0, 5000));
    }

    private static void none() {
        CHECK.same("NONE", -1, FareLattice.NONE);
        FareLattice x = new FareLattice();
        CHECK.same("in place of a price", FareLattice.NONE, x.price(1));
        Networks.daily(x, 0, 0, 1, 0, 2, 9);
        Networks.daily(x, 1, 1, 2, 4, 2, 9);
        CHECK.same("in place of a carrier", 0, x.fare(FareLattice.NONE, 0, 2, 0, 10));
        Networks.draft(x, 1, 101);
        CHECK.same("of any", 10, x.price(1));
        CHECK.same("in place of a member, holding", 0, x.hold(1, FareLattice.NONE, 1));
        Networks.draft(x, 1, 101);
        CHECK.same("in place of a member, wishing", 0, x.wish(1, FareLattice.NONE));
        CHECK.same("in place of a flight", FareLattice.NONE, x.link(0, FareLattice.NONE, false));
    }

    public static void main(String[] args) {
        ways();
        repairs();
        shares();
        exceptions();
        DOC.names("Ahead of the calls `setZone`, `setTax`, `flight`, `days`, `limit`, `link`, `fare`, `rules`, `back` the interface "
            + "says: ---- the network.");
        DOC.names("Ahead of the calls `departure`, `standing`, `open`, `load`, `cancelLeg`, `delay`, `repair` the interface says: "
            + "---- legs.");
        DOC.names("Ahead of the calls `leg`, `dropLegs`, `price`, `priceAnew`, `stretch`, `taxes` the interface says: ---- the "
            + "journey that is drafted.");
        DOC.names("Ahead of the calls `hold`, `wish`, `clear`, `wished`, `ticket`, `part`, `cancel`, `booking`, `coupon`, `share`, "
            + "`check`, `volunteer` the interface says: ---- bookings.");
        DOC.names("Ahead of the calls `pass`, `denied`, `points`, `owed` the interface says: ---- time, points and shares.");
        DOC.close();
    }
}
