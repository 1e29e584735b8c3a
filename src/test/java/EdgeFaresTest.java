import java.util.List;

/** The document's terms on fares and prices, sentence by sentence: a test of its own at the edges of each. */
public final class EdgeFaresTest {
    private static final Check CHECK = new Check("EdgeFaresTest");
    private static final Edges EDGES = new Edges(CHECK);
    private static final Sentences DOC = new Sentences(CHECK, List.of("Fares and prices"));
    private static final String STATE = Edges.STATE;

    /** Both ways to build a price have to tell the same. */
    private static void price(FareLattice x, String what, int want, int persons) {
        CHECK.same("price, " + what, want, x.price(persons));
        CHECK.same("priceAnew, " + what, want, x.priceAnew(persons));
    }

    /** The stretches of the cheapest way for one person, as the document tells them, and none behind them. */
    private static void stretches(FareLattice x, String what, int... want) {
        for (int i = 0; i < want.length; i++) {
            CHECK.same("stretch " + i + ", " + what, want[i], x.stretch(1, i));
        }
        CHECK.index("no more stretches, " + what, () -> x.stretch(1, want.length));
    }

    /** Flights 0 to 3 of carrier 0 from i to i + 1 at 0, 4, 8 and 12, all drafted on the day 1. */
    private static FareLattice fourLegs() {
        FareLattice x = new FareLattice();
        for (int i = 0; i < 4; i++) {
            Networks.daily(x, i, i + 1, 4 * i, 2, 9);
        }
        Networks.draft(x, 1, 101, 201, 301);
        return x;
    }

    /** A flight 0 from 0 to 1 at 12 on all days, and a fare 0 of 100 for it. */
    private static FareLattice oneFlight() {
        FareLattice x = new FareLattice();
        x.flight(0, 0, 1, 12, 2, 9);
        x.days(0, 0, 60, 127);
        x.fare(0, 0, 1, 0, 100);
        return x;
    }

    // ---- fares

    private static void fares() {
        DOC.in("Fares and prices");
        DOC.asks("Fares are numbered from 0, at most 16.", () -> {
            FareLattice x = new FareLattice();
            for (int i = 0; i < 16; i++) {
                CHECK.same("the next number", i, x.fare(0, 0, 1, 0, 1));
            }
            CHECK.state("a 17th is none", () -> x.fare(0, 0, 1, 0, 1));
            CHECK.index("it was not added", () -> x.back(16, 1));
            CHECK.same("the 16th was", 50, x.back(15, 1));
        });
        DOC.asks("A fare is from an airport to another one", () -> {
            FareLattice x = oneFlight();
            Networks.draft(x, 1);
            x.fare(0, 1, 0, 0, 1);
            x.fare(0, 0, 2, 0, 1);
            x.fare(0, 2, 1, 0, 1);
            price(x, "others are not for it", 100, 1);
        });
        DOC.asks(", of a carrier, or of any (then its legs may be of several)", EdgeFaresTest::ofACarrierOrAny);
        DOC.asks(", in a bucket, with an amount", () -> {
            for (int bucket = 0; bucket < 4; bucket++) {
                FareLattice x = new FareLattice();
                Networks.daily(x, 0, 1, 12, 2, 9);
                x.fare(0, 0, 1, bucket, 4999 + bucket / 3);
                CHECK.same("in " + bucket, 100 + 10 * bucket, x.coupon(Networks.held(x, 1, -1, 1), 0));
                CHECK.same("its amount", 4999 + bucket / 3, x.ticket(0));
            }
        });
        DOC.asks("; at first it holds for all days", () -> {
            FareLattice x = oneFlight();
            x.flight(0, 0, 1, 23, 2, 9);
            x.days(1, 60, 60, 127);
            x.delay(160, 1);
            int[] legs = {0, 1, 59, 60, 160};
            for (int leg : legs) {
                Networks.draft(x, leg);
                price(x, "leg " + leg, 100, 1);
            }
        });
        DOC.asks(", without advance", () -> {
            FareLattice x = oneFlight();
            Networks.draft(x, 1);
            x.pass(35);
            price(x, "an hour ahead", 100, 1);
        });
        DOC.asks(", one way, stay 0", () -> {
            FareLattice x = oneFlight();
            x.flight(0, 1, 0, 15, 2, 9);
            x.days(1, 1, 1, 127);
            x.fare(0, 1, 0, 0, 10);
            Networks.draft(x, 1);
            price(x, "out", 100, 1);
            Networks.draft(x, 1, 101);
            price(x, "out and back at once", 110, 1);
            Networks.draft(x, 101);
            price(x, "back", 10, 1);
        });
        DOC.asks(", freely combined", () -> {
            FareLattice x = oneFlight();
            Networks.daily(x, 1, 1, 2, 15, 2, 9);
            x.fare(1, 1, 2, 0, 10);
            Networks.draft(x, 1, 101);
            price(x, "with another carrier's", 110, 1);
        });
        DOC.asks(", and 50 percent of it are given back.", () -> {
            FareLattice x = oneFlight();
            CHECK.same("of 100", 50, x.cancel(Networks.ticketed(x, 1, -1, 1)));
        });
        DOC.asks("Rules: a first and a last day, an advance in days, whether it is a half of a return, a stay in days, whether it "
            + "is combined with fares of its carrier alone, and how much of it is given back, in percent.", EdgeFaresTest::eachRule);
    }

    private static void ofACarrierOrAny() {
        FareLattice x = new FareLattice();
        for (int i = 0; i < 3; i++) {
            Networks.daily(x, i, i, i + 1, 4 * i, 2, 9);
        }
        Networks.draft(x, 1, 101, 201);
        for (int carrier = 0; carrier < 3; carrier++) {
            x.fare(carrier, 0, 3, 0, 10);
            price(x, "of " + carrier + ", with legs of several", -1, 1);
        }
        x.fare(-1, 0, 3, 0, 90);
        price(x, "of any", 90, 1);
        x.fare(-1, 0, 1, 0, 5);
        Networks.draft(x, 1);
        price(x, "of any, with legs of one", 5, 1);
    }

    /** Each rule by itself closes a journey out and back, one day apart; without it the price is there again. */
    private static void eachRule() {
        FareLattice x = oneFlight();
        x.flight(1, 1, 0, 14, 2, 9);
        x.days(1, 0, 60, 127);
        x.fare(1, 1, 0, 0, 10);
        Networks.draft(x, 1, 102);
        ruled(x, "none", 110, -1, 61, 0, false, 0, false);
        ruled(x, "a first day", -1, 2, 61, 0, false, 0, false);
        ruled(x, "a last day", -1, -1, 0, 0, false, 0, false);
        ruled(x, "an advance", -1, -1, 61, 2, false, 0, false);
        ruled(x, "a half of a return", -1, -1, 61, 0, true, 0, false);
        ruled(x, "a stay of what is none", 110, -1, 61, 0, false, 30, false);
        ruled(x, "its carrier alone", -1, -1, 61, 0, false, 0, true);
        x.rules(1, -1, 61, 0, true, 0, false);
        ruled(x, "both halves of a return", 110, -1, 61, 0, true, 0, false);
        ruled(x, "with a stay of a day", 110, -1, 61, 0, true, 1, false);
        ruled(x, "with a stay of two", -1, -1, 61, 0, true, 2, false);
        x.rules(1, -1, 61, 0, false, 0, false);
        ruled(x, "none again", 110, -1, 61, 0, false, 0, false);
        CHECK.same("percent", 50, x.back(0, 100));
        CHECK.same("given back", 100 + 5, x.cancel(Networks.ticketed(x, 1, -1, 1, 102)));
    }

    private static void ruled(FareLattice x, String what, int want, int first, int last, int advance, boolean isReturn, int stay,
            boolean isOwn) {
        x.rules(0, first, last, advance, isReturn, stay, isOwn);
        price(x, what, want, 1);
    }

    // ---- journeys and stretches

    private static void journeys() {
        DOC.asks("A journey has 1 to 4 legs", () -> {
            FareLattice x = fourLegs();
            x.fare(0, 0, 4, 0, 10);
            Networks.daily(x, 4, 5, 16, 2, 9);
            price(x, "4 legs", 10, 1);
            EDGES.refused(STATE, y -> {
                for (int i = 0; i < 5; i++) {
                    Networks.daily(y, i, i + 1, 4 * i, 2, 9);
                }
                Networks.draft(y, 1, 101, 201, 301);
            }, y -> y.leg(401));
            price(new FareLattice(), "no leg is no journey", -1, 1);
            CHECK.state("nor can it be held", () -> new FareLattice().hold(1, -1, 1));
            CHECK.state("nor wished", () -> new FareLattice().wish(1, -1));
            FareLattice z = oneFlight();
            Networks.draft(z, 1);
            price(z, "1 leg", 100, 1);
        });
        DOC.asks(", each of which departs where the one before arrived", () ->
            EDGES.refused(STATE, x -> {
                for (int i = 0; i < 3; i++) {
                    Networks.daily(x, i, i + 1, 4 * i, 2, 9);
                }
                x.leg(1);
            }, x -> x.leg(2), x -> x.leg(201)));
        DOC.asks(", at least 1 hour later.", () -> {
            FareLattice x = new FareLattice();
            Networks.daily(x, 0, 1, 8, 2, 9);
            Networks.daily(x, 1, 2, 10, 2, 9);
            Networks.daily(x, 1, 2, 11, 2, 9);
            x.leg(1);
            CHECK.state("at once", () -> x.leg(101));
            CHECK.same("1 hour", 2, x.leg(201));
        });
        DOC.asks("To build its price for some seats: the journey is cut into stretches of legs that lie one behind the other",
            EdgeFaresTest::allCuts);
        DOC.asks("; each stretch gets a fare, that is from where it begins to where it ends", EdgeFaresTest::fromWhereItBegins);
        DOC.asks("; all its legs are of the carrier of the fare, unless that is of any", EdgeFaresTest::legsOfItsCarrier);
        DOC.asks("; between two of its legs there are less than 24 hours", EdgeFaresTest::lessThanADay);
        DOC.asks("; in the bucket of the fare so many seats are open on each leg", EdgeFaresTest::seatsOnEachLeg);
        DOC.asks("; the local day of the first departure (its local hour by 24, rounded down) is within the days of the fare",
            EdgeFaresTest::localDays);
        DOC.asks("; and that departure is at least 24 hours times the advance later than now.", EdgeFaresTest::advances);
    }

    /** For each of the eight ways to cut four legs: with fares for these stretches alone, and cheapest among all. */
    private static void allCuts() {
        for (int cuts = 0; cuts < 8; cuts++) {
            FareLattice alone = fourLegs();
            FareLattice amongAll = fourLegs();
            for (int from = 0; from < 4; from++) {
                for (int to = from + 1; to <= 4; to++) {
                    boolean isCut = isStretch(cuts, from, to);
                    amongAll.fare(0, from, to, 0, isCut ? 10 : 100);
                    if (isCut) {
                        alone.fare(0, from, to, 0, 10);
                    }
                }
            }
            int want = 10 * (1 + Integer.bitCount(cuts));
            price(alone, "alone, cuts " + cuts, want, 1);
            price(amongAll, "among all, cuts " + cuts, want, 1);
        }
    }

    /** Whether the legs from one airport to the other one are a stretch, a bit of cuts being set behind each leg that ends one. */
    private static boolean isStretch(int cuts, int from, int to) {
        boolean begins = from == 0 || (cuts >> (from - 1) & 1) == 1;
        boolean ends = to == 4 || (cuts >> (to - 1) & 1) == 1;
        boolean isWhole = true;
        for (int i = from + 1; i < to; i++) {
            isWhole = isWhole && (cuts >> (i - 1) & 1) == 0;
        }
        return begins && ends && isWhole;
    }

    private static void fromWhereItBegins() {
        FareLattice x = fourLegs();
        x.fare(0, 0, 3, 0, 1);
        x.fare(0, 1, 4, 0, 1);
        x.fare(0, 1, 3, 0, 1);
        x.fare(0, 4, 0, 0, 1);
        price(x, "no fare for all of it", -1, 1);
        x.fare(0, 0, 4, 0, 9);
        price(x, "one from its begin to its end", 9, 1);
        FareLattice y = new FareLattice();
        Networks.daily(y, 0, 1, 8, 2, 9);
        Networks.daily(y, 1, 0, 12, 2, 9);
        Networks.daily(y, 0, 1, 16, 2, 9);
        y.fare(0, 0, 1, 0, 7);
        Networks.draft(y, 1, 101);
        price(y, "there and back is from 0 to 0, which no fare is", -1, 1);
        y.leg(201);
        price(y, "and there again is from 0 to 1", 7, 1);
    }

    private static void legsOfItsCarrier() {
        for (int other = 0; other < 3; other++) {
            FareLattice x = new FareLattice();
            for (int i = 0; i < 3; i++) {
                Networks.daily(x, i == other ? 2 : 1, i, i + 1, 4 * i, 2, 9);
            }
            Networks.draft(x, 1, 101, 201);
            x.fare(1, 0, 3, 0, 10);
            x.fare(2, 0, 3, 0, 10);
            price(x, "the leg " + other + " is of another one", -1, 1);
            x.fare(-1, 0, 3, 0, 99);
            price(x, "a fare of any", 99, 1);
        }
        FareLattice x = new FareLattice();
        Networks.daily(x, 1, 0, 1, 8, 2, 9);
        Networks.daily(x, 1, 1, 2, 12, 2, 9);
        Networks.draft(x, 1, 101);
        x.fare(0, 0, 2, 0, 10);
        x.fare(1, 0, 2, 0, 20);
        price(x, "all of one", 20, 1);
    }

    private static void lessThanADay() {
        int[] hours = {1, 22, 23, 24, 25};
        for (int between : hours) {
            FareLattice x = new FareLattice();
            Networks.daily(x, 0, 1, 8, 2, 9);
            Networks.daily(x, 1, 2, (10 + between) % 24, 2, 9);
            x.fare(0, 0, 2, 0, 10);
            Networks.draft(x, 1, 101 + (10 + between) / 24);
            price(x, between + " hours", between < 24 ? 10 : -1, 1);
        }
        FareLattice x = new FareLattice();
        Networks.daily(x, 0, 1, 8, 1, 9);
        Networks.daily(x, 1, 2, 8, 1, 9);
        Networks.daily(x, 2, 3, 8, 1, 9);
        Networks.daily(x, 3, 4, 8, 1, 9);
        x.fare(0, 0, 4, 0, 10);
        Networks.draft(x, 1, 102, 203, 304);
        price(x, "23 hours between each two that follow one another", 10, 1);
        Networks.draft(x, 1, 102, 204, 305);
        price(x, "47 hours between two in the middle", -1, 1);
        x.fare(0, 0, 2, 0, 3);
        x.fare(0, 2, 4, 0, 4);
        price(x, "which are of two stretches then", 7, 1);
    }

    private static void seatsOnEachLeg() {
        for (int leg = 0; leg < 4; leg++) {
            FareLattice x = fourLegs();
            x.fare(0, 0, 4, 2, 10);
            x.limit(leg, 2, 5);
            price(x, "5 open on " + leg, 10, 5);
            price(x, "not 6 on " + leg, -1, 6);
            x.limit(leg, 3, 0);
            price(x, "a bucket with a greater number does not matter", 10, 5);
            x.limit(leg, 1, 4);
            price(x, "one with a lower number does", -1, 5);
            x.fare(0, 0, 4, 0, 70);
            price(x, "the bucket 0 is open", 70, 9);
        }
    }

    private static void localDays() {
        int[] zones = {-12, 0, 14};
        for (int zone : zones) {
            FareLattice x = new FareLattice();
            x.setZone(0, zone);
            x.setZone(1, 3);
            Networks.daily(x, 0, 1, 0, 2, 9);
            Networks.daily(x, 0, 1, 23, 2, 9);
            x.fare(0, 0, 1, 0, 10);
            x.rules(0, 4, 5, 0, false, 0, false);
            for (int day = 3; day <= 6; day++) {
                int want = day == 4 || day == 5 ? 10 : -1;
                Networks.draft(x, day);
                price(x, "at 0 of the day " + day + ", zone " + zone, want, 1);
                Networks.draft(x, 100 + day);
                price(x, "at 23 of the day " + day + ", zone " + zone, want, 1);
            }
            x.delay(103, 1);
            Networks.draft(x, 103);
            price(x, "a delay brings it to the first day, zone " + zone, 10, 1);
            x.delay(105, 1);
            Networks.draft(x, 105);
            price(x, "a delay brings it behind the last day, zone " + zone, -1, 1);
        }
        FareLattice x = oneFlight();
        x.flight(0, 0, 1, 23, 2, 9);
        x.days(1, 60, 60, 127);
        x.rules(0, 61, 61, 0, false, 0, false);
        Networks.draft(x, 160);
        price(x, "the day 60", -1, 1);
        x.delay(160, 1);
        price(x, "the day 61, by a delay", 100, 1);
        x.rules(0, -1, -1, 0, false, 0, false);
        Networks.draft(x, 1);
        price(x, "the day -1 is none", -1, 1);
        x.rules(0, -1, 1, 0, false, 0, false);
        price(x, "up to the day 1", 100, 1);
        FareLattice y = new FareLattice();
        Networks.daily(y, 0, 1, 22, 1, 9);
        Networks.daily(y, 1, 2, 3, 1, 9);
        y.fare(0, 0, 2, 0, 10);
        y.rules(0, 1, 1, 0, false, 0, false);
        Networks.draft(y, 1, 102);
        price(y, "the first departure's day alone", 10, 1);
        y.rules(0, 2, 2, 0, false, 0, false);
        price(y, "not that of the second one", -1, 1);
    }

    private static void advances() {
        int[] advances = {0, 1, 2, 30};
        for (int advance : advances) {
            FareLattice x = oneFlight();
            x.rules(0, -1, 61, advance, false, 0, false);
            Networks.draft(x, 31);
            int latest = 31 * 24 + 12 - 24 * advance;
            Networks.passTo(x, 0, latest - 1);
            price(x, "an hour more than " + advance + " days", 100, 1);
            x.pass(1);
            price(x, advance + " days", advance == 0 ? -1 : 100, 1);
            x.pass(1);
            price(x, "an hour less than " + advance + " days", -1, 1);
            if (advance > 0) {
                x.delay(31, 1);
                price(x, advance + " days by a delay", 100, 1);
            }
        }
        FareLattice y = new FareLattice();
        Networks.daily(y, 0, 1, 8, 2, 9);
        Networks.daily(y, 1, 2, 20, 2, 9);
        y.fare(0, 0, 2, 0, 10);
        y.rules(0, -1, 61, 1, false, 0, false);
        Networks.draft(y, 1, 101);
        y.pass(9);
        price(y, "the second leg is late enough, the first is not", -1, 1);
        y.fare(0, 0, 1, 0, 3);
        y.fare(0, 1, 2, 0, 4);
        y.rules(2, -1, 61, 1, false, 0, false);
        price(y, "as a stretch of its own the second one is", 7, 1);
    }

    // ---- returns and carriers

    private static void returns() {
        DOC.asks("A half of a return is possible only if the journey has just two stretches", EdgeFaresTest::justTwoStretches);
        DOC.asks(", ends where it began", () -> {
            FareLattice x = new FareLattice();
            Networks.daily(x, 0, 1, 8, 2, 9);
            Networks.daily(x, 1, 2, 12, 2, 9);
            Networks.daily(x, 1, 0, 12, 2, 9);
            x.fare(0, 0, 1, 0, 10);
            x.fare(0, 1, 2, 0, 10);
            x.fare(0, 1, 0, 0, 10);
            halves(x, 0, 1, 2);
            Networks.draft(x, 1, 101);
            price(x, "it ends elsewhere", -1, 1);
            Networks.draft(x, 1, 201);
            price(x, "it ends where it began", 20, 1);
        });
        DOC.asks(", both have halves of returns", EdgeFaresTest::bothHalves);
        DOC.asks(", and there are at least 24 hours times the greater one of their stays between the arrival of the first stretch "
            + "and the departure of the second one.", EdgeFaresTest::stays);
        DOC.asks("A fare that is combined with those of its carrier alone is possible only if all fares are of its carrier",
            EdgeFaresTest::itsCarrierAlone);
        DOC.asks("(any being one of its own: if it is of any, all fares have to be).", EdgeFaresTest::anyIsOneOfItsOwn);
    }

    private static void halves(FareLattice x, int... fares) {
        for (int fare : fares) {
            x.rules(fare, -1, 61, 0, true, 0, false);
        }
    }

    private static void justTwoStretches() {
        FareLattice x = new FareLattice();
        for (int i = 0; i < 4; i++) {
            Networks.daily(x, i, (i + 1) % 4, 4 * i, 2, 9);
            x.fare(0, i, (i + 1) % 4, 0, 1);
        }
        x.fare(0, 0, 3, 0, 50);
        x.fare(0, 0, 2, 0, 60);
        x.fare(0, 2, 0, 0, 70);
        halves(x, 0, 1, 2, 3, 4, 5, 6);
        Networks.draft(x, 1);
        price(x, "one", -1, 1);
        Networks.draft(x, 1, 101, 201, 301);
        price(x, "two: three legs and one; not three, not four", 51, 1);
        stretches(x, "two", 43, 31);
        x.rules(4, -1, 61, 0, false, 0, false);
        price(x, "two: two legs and two", 130, 1);
        stretches(x, "two", 52, 62);
        x.rules(5, -1, 61, 0, false, 0, false);
        price(x, "none is left", -1, 1);
        x.rules(6, -1, 61, 0, false, 0, false);
        price(x, "two that are no halves", 130, 1);
        Networks.draft(x, 1, 101, 201);
        price(x, "one that is no half", 50, 1);
    }

    private static void bothHalves() {
        boolean[] isHalf = {false, true};
        for (boolean first : isHalf) {
            for (boolean second : isHalf) {
                FareLattice x = new FareLattice();
                Networks.daily(x, 0, 1, 8, 2, 9);
                Networks.daily(x, 1, 0, 12, 2, 9);
                x.fare(0, 0, 1, 0, 10);
                x.fare(0, 1, 0, 0, 20);
                x.rules(0, -1, 61, 0, first, 0, false);
                x.rules(1, -1, 61, 0, second, 0, false);
                Networks.draft(x, 1, 101);
                price(x, first + " and " + second, first == second ? 30 : -1, 1);
            }
        }
    }

    private static void stays() {
        int[][] stays = {{0, 0}, {1, 0}, {0, 1}, {2, 3}, {3, 2}, {30, 30}};
        for (int[] stay : stays) {
            int greater = Math.max(stay[0], stay[1]);
            FareLattice x = new FareLattice();
            x.flight(0, 0, 1, 8, 2, 9);
            x.flight(0, 1, 0, 11, 2, 9);
            x.days(0, 1, 1, 127);
            x.days(1, 0, 60, 127);
            x.fare(0, 0, 1, 0, 10);
            x.fare(0, 1, 0, 0, 20);
            x.rules(0, -1, 61, 0, true, stay[0], false);
            x.rules(1, -1, 61, 0, true, stay[1], false);
            String what = stay[0] + " and " + stay[1] + " days";
            if (greater > 0) {
                Networks.draft(x, 1, 100 + greater);
                price(x, what + ", 23 hours less", -1, 1);
            }
            Networks.draft(x, 1, 101 + greater);
            price(x, what + ", an hour more", 30, 1);
            x.delay(1, 1);
            price(x, what + ", just so many", 30, 1);
            x.delay(1, 1);
            price(x, what + ", an hour less", -1, 1);
        }
        FareLattice x = new FareLattice();
        for (int i = 0; i < 4; i++) {
            Networks.daily(x, i, (i + 1) % 4, 4 * i, 2, 9);
        }
        x.fare(0, 0, 2, 0, 10);
        x.fare(0, 2, 0, 0, 20);
        x.rules(0, -1, 61, 0, true, 1, false);
        x.rules(1, -1, 61, 0, true, 1, false);
        Networks.draft(x, 1, 101, 202, 302);
        price(x, "26 hours behind the last leg of the first stretch", 30, 1);
        Networks.draft(x, 1, 101, 201, 302);
        price(x, "between others they do not count", -1, 1);
        unevenStays();
    }

    /** One leg out and two back, and two out and one back: the hours between the stretches count, wherever the turn is. */
    private static void unevenStays() {
        FareLattice x = new FareLattice();
        for (int i = 0; i < 3; i++) {
            Networks.daily(x, i, (i + 1) % 3, 4 * i, 2, 9);
        }
        x.fare(0, 0, 1, 0, 10);
        x.fare(0, 1, 0, 0, 20);
        x.rules(0, -1, 61, 0, true, 1, false);
        x.rules(1, -1, 61, 0, true, 1, false);
        Networks.draft(x, 1, 102, 202);
        price(x, "26 hours behind the only leg out", 30, 1);
        Networks.draft(x, 1, 101, 202);
        price(x, "26 hours between two legs back", -1, 1);
        x.fare(0, 0, 2, 0, 40);
        x.fare(0, 2, 0, 0, 50);
        x.rules(2, -1, 61, 0, true, 1, false);
        x.rules(3, -1, 61, 0, true, 1, false);
        price(x, "26 hours ahead of the only leg back", 90, 1);
    }

    private static void itsCarrierAlone() {
        for (int own = 0; own < 3; own++) {
            FareLattice x = new FareLattice();
            for (int i = 0; i < 3; i++) {
                Networks.daily(x, 1, i, i + 1, 4 * i, 2, 9);
                x.fare(1, i, i + 1, 0, 10);
                x.fare(-1, i, i + 1, 0, 1);
            }
            Networks.draft(x, 1, 101, 201);
            price(x, "of any, freely combined", 3, 1);
            for (int i = 0; i < 3; i++) {
                x.rules(2 * i, -1, 61, 0, false, 0, i == own);
                x.rules(2 * i + 1, i == own ? 61 : -1, 61, 0, false, 0, false);
            }
            price(x, "the stretch " + own + " asks for it", 30, 1);
            x.rules(2 * ((own + 1) % 3), 61, 61, 0, false, 0, false);
            price(x, "one of any is not of it, " + own, -1, 1);
        }
        FareLattice y = oneFlight();
        y.rules(0, -1, 61, 0, false, 0, true);
        Networks.draft(y, 1);
        price(y, "alone it is", 100, 1);
    }

    private static void anyIsOneOfItsOwn() {
        FareLattice x = new FareLattice();
        Networks.daily(x, 0, 0, 1, 8, 2, 9);
        Networks.daily(x, 1, 1, 2, 12, 2, 9);
        x.fare(-1, 0, 1, 0, 10);
        x.fare(1, 1, 2, 0, 20);
        x.rules(0, -1, 61, 0, false, 0, true);
        Networks.draft(x, 1, 101);
        price(x, "any with a carrier's", -1, 1);
        x.fare(-1, 1, 2, 0, 70);
        price(x, "any with any", 80, 1);
        x.rules(0, -1, 61, 0, false, 0, false);
        price(x, "freely combined", 30, 1);
        x.rules(1, -1, 61, 0, false, 0, true);
        price(x, "a carrier's with any", 80, 1);
        Networks.draft(x, 1);
        x.rules(0, -1, 61, 0, false, 0, true);
        price(x, "any alone", 10, 1);
    }

    // ---- the cheapest way

    private static void cheapest() {
        DOC.asks("The price is the least sum of amounts of all ways", () -> {
            FareLattice x = fourLegs();
            for (int i = 0; i < 4; i++) {
                x.fare(0, i, i + 1, 0, 25);
            }
            x.fare(0, 0, 4, 0, 101);
            price(x, "four are cheaper by 1", 100, 1);
            x.fare(0, 0, 4, 0, 99);
            price(x, "one is cheaper by 1", 99, 1);
            stretches(x, "one", 54);
            x.fare(0, 0, 1, 0, 23);
            price(x, "four again", 98, 1);
            stretches(x, "four", 61, 11, 21, 31);
        });
        DOC.asks("; of several ways that are as cheap, the one whose first stretch has the fewest legs", () -> {
            FareLattice x = fourLegs();
            x.fare(0, 0, 4, 0, 100);
            stretches(x, "4 legs alone", 4);
            x.fare(0, 0, 3, 0, 70);
            x.fare(0, 3, 4, 0, 30);
            stretches(x, "3 legs", 13, 21);
            x.fare(0, 0, 2, 0, 60);
            x.fare(0, 2, 4, 0, 40);
            stretches(x, "2 legs", 32, 42);
            x.fare(0, 0, 1, 0, 50);
            x.fare(0, 1, 4, 0, 50);
            stretches(x, "1 leg", 51, 63);
            price(x, "all as cheap", 100, 1);
        });
        DOC.asks(", or, with as many, the fare with the lower number", EdgeFaresTest::lowerNumber);
        DOC.asks(", then the second stretch likewise, and so on.", EdgeFaresTest::secondLikewise);
    }

    private static void lowerNumber() {
        FareLattice x = fourLegs();
        x.fare(0, 0, 4, 0, 100);
        x.fare(0, 0, 4, 1, 100);
        stretches(x, "the lower one", 4);
        for (int i = 0; i < 4; i++) {
            x.limit(i, 0, 9);
            x.limit(i, 1, 9);
        }
        x.rules(0, 61, 61, 0, false, 0, false);
        stretches(x, "the other one is left", 14);
        FareLattice y = oneFlight();
        y.fare(-1, 0, 1, 3, 100);
        Networks.draft(y, 1);
        stretches(y, "of a carrier or of any is all the same", 1);
        y.fare(0, 0, 1, 3, 99);
        stretches(y, "a cheaper one goes ahead", 21);
        CHECK.same("and is held in its bucket", 130, y.coupon(Networks.held(y, 1, -1, 1), 0));
        FareLattice z = fourLegs();
        z.fare(0, 2, 4, 0, 40);
        z.fare(0, 1, 4, 0, 60);
        z.fare(0, 0, 2, 0, 60);
        z.fare(0, 0, 1, 0, 40);
        stretches(z, "fewer legs go ahead of the lower number", 31, 13);
    }

    private static void secondLikewise() {
        FareLattice x = fourLegs();
        x.fare(0, 0, 1, 0, 10);
        x.fare(0, 1, 4, 0, 90);
        x.fare(0, 1, 3, 0, 60);
        x.fare(0, 3, 4, 0, 30);
        stretches(x, "the second with 2 legs, not 3", 1, 22, 31);
        x.fare(0, 1, 2, 0, 40);
        x.fare(0, 2, 4, 0, 50);
        stretches(x, "the second with 1 leg", 1, 41, 52);
        x.fare(0, 2, 3, 0, 20);
        stretches(x, "the third with 1 leg", 1, 41, 61, 31);
        x.fare(0, 1, 2, 1, 40);
        x.fare(0, 2, 3, 1, 20);
        x.fare(0, 3, 4, 1, 30);
        stretches(x, "lower numbers in all", 1, 41, 61, 31);
        x.rules(3, 61, 61, 0, false, 0, false);
        stretches(x, "the other one for the last", 1, 41, 61, 91);
        price(x, "all as cheap", 100, 1);
    }

    // ---- taxes

    private static void taxes() {
        DOC.asks("Taxes: an airport has a tax, 0 at first.", () -> {
            for (int airport = 0; airport < 6; airport++) {
                FareLattice x = new FareLattice();
                Networks.daily(x, airport, (airport + 1) % 6, 12, 2, 9);
                x.leg(1);
                CHECK.same("0 at first at " + airport, 0, x.taxes());
                x.setTax(airport, 1 + airport);
                CHECK.same("its own at " + airport, 1 + airport, x.taxes());
            }
        });
        DOC.asks("It is paid where the journey begins", () -> {
            FareLattice x = fourLegs();
            for (int i = 0; i < 6; i++) {
                x.setTax(i, 1 << i);
            }
            CHECK.same("where it begins alone", 1, x.taxes());
            Networks.draft(x, 301);
            CHECK.same("where another one begins", 8, x.taxes());
            x.dropLegs();
            CHECK.same("nowhere", 0, x.taxes());
        });
        DOC.asks(", and where a leg departs 6 hours or more behind the arrival of the leg ahead", EdgeFaresTest::sixHours);
        DOC.asks("(where it is less, the stop is none).", () -> {
            FareLattice x = new FareLattice();
            x.setTax(1, 100);
            Networks.daily(x, 0, 1, 8, 2, 9);
            Networks.daily(x, 1, 2, 16, 2, 9);
            Networks.draft(x, 1, 101);
            CHECK.same("6 hours", 100, x.taxes());
            x.delay(1, 1);
            CHECK.same("5 hours, by a delay", 0, x.taxes());
            x.delay(1, 7);
            CHECK.same("it departs ahead of the arrival", 0, x.taxes());
            x.delay(101, 8);
            CHECK.same("again 6 hours", 100, x.taxes());
        });
    }

    private static void sixHours() {
        int[] hours = {1, 5, 6, 7, 24, 48};
        for (int between : hours) {
            FareLattice x = new FareLattice();
            x.setTax(0, 1);
            x.setTax(1, 10);
            x.setTax(2, 100);
            Networks.daily(x, 0, 1, 1, 1, 9);
            Networks.daily(x, 1, 2, (2 + between) % 24, 1, 9);
            Networks.draft(x, 1, 101 + (2 + between) / 24);
            CHECK.same(between + " hours", between >= 6 ? 11 : 1, x.taxes());
        }
        FareLattice y = new FareLattice();
        for (int i = 0; i < 5; i++) {
            y.setTax(i, 1 << i);
        }
        int[] departs = {0, 7, 13, 20};
        for (int i = 0; i < 4; i++) {
            Networks.daily(y, i, i + 1, departs[i], 1, 9);
        }
        Networks.draft(y, 1, 101, 201, 301);
        CHECK.same("6, 5 and 6 hours", 1 + 2 + 8, y.taxes());
        y.fare(0, 0, 4, 0, 10);
        CHECK.same("also within one stretch", 10 + 11, y.ticket(Networks.held(y, 1, -1, 1, 101, 201, 301)));
    }

    public static void main(String[] args) {
        fares();
        journeys();
        returns();
        cheapest();
        taxes();
        DOC.close();
    }
}
