import java.util.List;

/** Promises 18 to 23, sentence by sentence: a test of its own at the edges of each. */
public final class EdgeDraftTest {
    private static final Check CHECK = new Check("EdgeDraftTest");
    private static final Edges EDGES = new Edges(CHECK);
    private static final Sentences DOC = new Sentences(CHECK, List.of("Promise 18: leg", "Promise 19: dropLegs",
        "Promise 20: price", "Promise 21: priceAnew", "Promise 22: stretch", "Promise 23: taxes"));
    private static final String INDEX = Edges.INDEX;
    private static final String ARGUMENT = Edges.ARGUMENT;
    private static final String STATE = Edges.STATE;

    /** Flights 0 to 3 of carrier 0 from i to i + 1, and 4 from 4 to 0, that follow one another, with a fare i for each. */
    private static void chain(FareLattice x) {
        for (int i = 0; i < 5; i++) {
            Networks.daily(x, i, (i + 1) % 5, 4 * i, 2, 9);
            x.fare(0, i, (i + 1) % 5, 0, 10 + i);
        }
    }

    /** The same, with as many legs of the day 1 drafted. */
    private static FareLattice drafted(int legs) {
        FareLattice x = Edges.after(EdgeDraftTest::chain);
        draft(x, legs);
        return x;
    }

    private static void draft(FareLattice x, int legs) {
        for (int i = 0; i < legs; i++) {
            x.leg(100 * i + 1);
        }
    }

    private static void draftedAll(FareLattice x) {
        chain(x);
        draft(x, 4);
    }

    private static void draftedNone(FareLattice x) {
        chain(x);
    }

    /** Both ways to build a price have to tell the same. */
    private static void price(FareLattice x, String what, int want, int persons) {
        CHECK.same("price, " + what, want, x.price(persons));
        CHECK.same("priceAnew, " + what, want, x.priceAnew(persons));
    }

    // ---- promise 18

    private static void leg() {
        DOC.in("Promise 18: leg");
        DOC.asks("Puts a leg behind those of the draft.", EdgeDraftTest::legBehindOthers);
        DOC.asks("- `leg`: a leg", () -> EDGES.takes(EdgeDraftTest::chain, (x, leg) -> x.leg(leg), 0, 20, 400, 420));
        DOC.asks("Returns how many it has then.", EdgeDraftTest::countOfLegs);
        DOC.asks("Throws `IndexOutOfBoundsException` if there is no such leg", () -> {
            EDGES.refuses(INDEX, EdgeDraftTest::draftedNone, (x, leg) -> x.leg(leg), -1, 21, 99, 421, 500, -400);
            EDGES.refuses(INDEX, EdgeDraftTest::draftedAll, (x, leg) -> x.leg(leg), -1, 21, 500);
        });
        DOC.asks("Throws `IllegalStateException` if it has 4", () ->
            EDGES.refuses(STATE, EdgeDraftTest::draftedAll, (x, leg) -> x.leg(leg), 401, 402, 301));
        DOC.asks(", or the leg already", EdgeDraftTest::legAlready);
        DOC.asks(", or the leg does not depart where the one ahead arrives", () ->
            EDGES.refuses(STATE, x -> {
                chain(x);
                draft(x, 2);
            }, (x, leg) -> x.leg(leg), 2, 102, 302, 402));
        DOC.asks(", at least 1 hour later", EdgeDraftTest::hourBetweenLegs);
        DOC.asks("(which is asked here alone)", EdgeDraftTest::askedHereAlone);
    }

    private static void legBehindOthers() {
        FareLattice x = drafted(3);
        CHECK.same("in their order: the first", 1, x.stretch(1, 0));
        CHECK.same("the second", 11, x.stretch(1, 1));
        CHECK.same("the third", 21, x.stretch(1, 2));
        x.cancelLeg(301);
        CHECK.same("one that is cancelled", 4, x.leg(301));
        x.dropLegs();
        x.pass(40);
        CHECK.same("one that has departed", 1, x.leg(1));
    }

    private static void countOfLegs() {
        FareLattice x = Edges.after(EdgeDraftTest::chain);
        for (int i = 0; i < 4; i++) {
            CHECK.same("one more", i + 1, x.leg(100 * i + 1));
        }
    }

    private static void legAlready() {
        EDGES.refuses(STATE, x -> {
            Networks.daily(x, 0, 1, 8, 1, 5);
            Networks.daily(x, 1, 0, 10, 1, 5);
            x.leg(1);
            x.leg(101);
            x.delay(1, 8);
        }, (x, leg) -> x.leg(leg), 1, 101);
        FareLattice x = new FareLattice();
        Networks.daily(x, 0, 1, 8, 1, 5);
        Networks.daily(x, 1, 0, 10, 1, 5);
        Networks.draft(x, 1, 101);
        CHECK.same("another day's leg of the flight is another one", 3, x.leg(2));
    }

    private static void hourBetweenLegs() {
        for (int hour = 8; hour <= 12; hour++) {
            FareLattice x = new FareLattice();
            Networks.daily(x, 0, 1, 8, 2, 5);
            Networks.daily(x, 1, 0, hour, 2, 5);
            x.leg(1);
            if (hour < 11) {
                CHECK.state("at " + hour, () -> x.leg(101));
                CHECK.same("the day after that", 2, x.leg(102));
            } else {
                CHECK.same("at " + hour, 2, x.leg(101));
            }
        }
        FareLattice x = new FareLattice();
        Networks.daily(x, 0, 1, 8, 2, 5);
        Networks.daily(x, 1, 0, 11, 2, 5);
        x.delay(1, 1);
        x.leg(1);
        CHECK.state("less by a delay of the one ahead", () -> x.leg(101));
        x.delay(101, 1);
        CHECK.same("enough by its own", 2, x.leg(101));
    }

    private static void askedHereAlone() {
        FareLattice x = new FareLattice();
        Networks.daily(x, 0, 1, 8, 2, 5);
        Networks.daily(x, 1, 2, 11, 2, 5);
        x.fare(0, 0, 2, 0, 40);
        Networks.draft(x, 1, 101);
        x.delay(1, 8);
        price(x, "the second leg departs ahead of the arrival now", 40, 1);
        CHECK.same("it can be wished", 0, x.wish(1, -1));
        CHECK.same("and held from that", 1, x.clear());
        FareLattice y = new FareLattice();
        Networks.daily(y, 0, 1, 8, 2, 5);
        Networks.daily(y, 1, 2, 11, 2, 5);
        y.fare(0, 0, 2, 0, 40);
        Networks.draft(y, 1, 101);
        y.delay(1, 1);
        CHECK.same("and held", 0, y.hold(1, -1, 9));
    }

    // ---- promise 19

    private static void dropLegs() {
        DOC.in("Promise 19: dropLegs");
        DOC.asks("Empties the draft.", EdgeDraftTest::draftEmptied);
        DOC.asks("Returns how many legs it had.", () -> {
            for (int legs = 0; legs <= 4; legs++) {
                CHECK.same("as many as were put", legs, drafted(legs).dropLegs());
            }
        });
    }

    private static void draftEmptied() {
        FareLattice x = drafted(4);
        x.dropLegs();
        price(x, "of no leg", -1, 1);
        CHECK.same("no tax", 0, x.taxes());
        CHECK.same("none to drop", 0, x.dropLegs());
        CHECK.same("the same leg again", 1, x.leg(1));
    }

    // ---- promise 20

    private static void price() {
        DOC.in("Promise 20: price");
        DOC.asks("Builds the price of the draft.", EdgeDraftTest::leastAndMostPrices);
        DOC.asks("- `persons`: 1 to 9", () ->
            EDGES.range(1, 9, ARGUMENT, EdgeDraftTest::draftedAll, (x, persons) -> x.price(persons)));
        DOC.asks("Returns the fares for one person", () -> {
            CHECK.same("of 1", 10, drafted(1).price(1));
            CHECK.same("of 9", 10, drafted(1).price(9));
        });
        DOC.asks(", -1 if there is no way, or no leg.", EdgeDraftTest::noPrice);
        DOC.asks("Throws `IllegalArgumentException` if persons is out of range", () -> {
            EDGES.refuses(ARGUMENT, Edges.NEW, (x, persons) -> x.price(persons), 0, 10, -1);
            EDGES.refuses(ARGUMENT, EdgeDraftTest::draftedAll, (x, persons) -> x.price(persons), 0, 10, -1);
        });
    }

    private static void leastAndMostPrices() {
        FareLattice x = new FareLattice();
        for (int i = 0; i < 4; i++) {
            Networks.daily(x, i, i + 1, 4 * i, 2, 9);
            x.fare(-1, i, i + 1, 0, 5000);
        }
        draft(x, 4);
        price(x, "four of the most", 20000, 9);
        x.fare(-1, 0, 4, 0, 1);
        price(x, "one of the least", 1, 9);
    }

    private static void noPrice() {
        price(new FareLattice(), "of a new object", -1, 1);
        price(drafted(0), "of no leg", -1, 1);
        FareLattice x = drafted(4);
        price(x, "of 9", 46, 9);
        x.limit(3, 0, 8);
        price(x, "of 9, with 8 open on the last leg", -1, 9);
        price(x, "of 8", 46, 8);
        FareLattice y = new FareLattice();
        Networks.daily(y, 0, 1, 8, 2, 9);
        y.leg(1);
        price(y, "without any fare", -1, 1);
        y.fare(0, 1, 0, 0, 10);
        price(y, "without a fare for it", -1, 1);
    }

    // ---- promise 21

    private static void priceAnew() {
        DOC.in("Promise 21: priceAnew");
        DOC.asks("Returns the same, found by trying all fares for all legs:", EdgeDraftTest::sameByAllFares);
        DOC.asks("each leg begins a stretch with a fare, or goes on with that of the leg ahead.", EdgeDraftTest::beginsOrGoesOn);
        DOC.asks("- `persons`: 1 to 9", () ->
            EDGES.range(1, 9, ARGUMENT, EdgeDraftTest::draftedAll, (x, persons) -> x.priceAnew(persons)));
        DOC.asks("Returns as price() tells it.", EdgeDraftTest::asPriceTells);
        DOC.asks("Throws `IllegalArgumentException` if persons is out of range", () -> {
            EDGES.refuses(ARGUMENT, Edges.NEW, (x, persons) -> x.priceAnew(persons), 0, 10, -1);
            EDGES.refuses(ARGUMENT, EdgeDraftTest::draftedAll, (x, persons) -> x.priceAnew(persons), 0, 10, -1);
        });
    }

    /** Sixteen fares for four legs to and fro: the ways are many, and the cheapest fares have the greatest numbers. */
    private static void sameByAllFares() {
        FareLattice x = new FareLattice();
        for (int i = 0; i < 4; i++) {
            Networks.daily(x, i % 2, 1 - i % 2, 4 * i, 2, 9);
        }
        for (int i = 0; i < 16; i++) {
            x.fare(i % 3 == 0 ? -1 : 0, i / 8, 1 - i / 8, i % 4, 100 - i);
        }
        draft(x, 4);
        price(x, "one leg out, three back", 93 + 85, 9);
        CHECK.same("one leg out", 71, x.stretch(9, 0));
        CHECK.same("three back", 153, x.stretch(9, 1));
    }

    private static void beginsOrGoesOn() {
        FareLattice x = drafted(4);
        price(x, "each begins", 10 + 11 + 12 + 13, 1);
        x.fare(0, 0, 4, 0, 45);
        price(x, "all go on", 45, 1);
        x.fare(0, 1, 4, 0, 34);
        price(x, "the second begins, two go on", 44, 1);
        x.fare(0, 0, 3, 0, 30);
        price(x, "two go on, the fourth begins", 43, 1);
        x.fare(0, 0, 2, 0, 20);
        x.fare(0, 2, 4, 0, 22);
        price(x, "the third begins, and others go on", 42, 1);
    }

    private static void asPriceTells() {
        CHECK.same("no leg", -1, drafted(0).priceAnew(1));
        FareLattice x = drafted(1);
        x.limit(0, 0, 8);
        CHECK.same("no way", -1, x.priceAnew(9));
        CHECK.same("for one person of 8", 10, x.priceAnew(8));
        CHECK.same("the draft is as it was", 1, x.dropLegs());
    }

    // ---- promise 22

    private static void stretch() {
        DOC.in("Promise 22: stretch");
        DOC.asks("Returns a stretch of the cheapest way.", EdgeDraftTest::stretchOfTheCheapest);
        DOC.asks("- `persons`: 1 to 9", () ->
            EDGES.range(1, 9, ARGUMENT, EdgeDraftTest::draftedAll, (x, persons) -> x.stretch(persons, 0)));
        DOC.asks("- `stretch`: 0 for the first one", EdgeDraftTest::stretchesFromZero);
        DOC.asks("Returns 10 * its fare + how many legs it has.", EdgeDraftTest::fareAndLegs);
        DOC.asks("Throws `IndexOutOfBoundsException` if there is no such stretch", () -> {
            EDGES.refuses(INDEX, EdgeDraftTest::draftedAll, (x, stretch) -> x.stretch(9, stretch), -1, 4, 5,
                Integer.MAX_VALUE, Integer.MIN_VALUE);
            EDGES.refuses(INDEX, x -> {
                draftedAll(x);
                x.fare(0, 0, 4, 0, 1);
            }, (x, stretch) -> x.stretch(9, stretch), 1, 2, 3, 4);
        });
        DOC.asks(", or no way", () -> {
            EDGES.refuses(INDEX, EdgeDraftTest::draftedNone, (x, stretch) -> x.stretch(1, stretch), -1, 0, 1);
            EDGES.refuses(INDEX, x -> {
                draftedAll(x);
                x.limit(2, 0, 8);
                x.price(8);
            }, (x, stretch) -> x.stretch(9, stretch), 0, 1, 2, 3);
        });
        DOC.asks("Throws `IllegalArgumentException` if persons is out of range; that goes first here", () -> {
            EDGES.refuses(ARGUMENT, EdgeDraftTest::draftedAll, (x, persons) -> x.stretch(persons, 0), 0, 10, -1);
            EDGES.refuses(ARGUMENT, EdgeDraftTest::draftedAll, (x, persons) -> x.stretch(persons, 4), 0, 10, -1);
            EDGES.refuses(ARGUMENT, EdgeDraftTest::draftedAll, (x, persons) -> x.stretch(persons, -1), 0, 10, -1);
            EDGES.refuses(ARGUMENT, Edges.NEW, (x, persons) -> x.stretch(persons, 0), 0, 10, -1);
        });
    }

    private static void stretchOfTheCheapest() {
        FareLattice x = drafted(2);
        x.fare(0, 0, 2, 3, 20);
        x.limit(1, 3, 4);
        CHECK.same("the cheapest of 4", 52, x.stretch(4, 0));
        CHECK.same("the cheapest of 5", 1, x.stretch(5, 0));
        CHECK.same("and its second one", 11, x.stretch(5, 1));
        CHECK.index("which those of 4 have not", () -> x.stretch(4, 1));
    }

    private static void stretchesFromZero() {
        FareLattice x = drafted(4);
        for (int i = 0; i < 4; i++) {
            CHECK.same("the stretch " + i, 10 * i + 1, x.stretch(1, i));
        }
    }

    private static void fareAndLegs() {
        FareLattice x = drafted(4);
        for (int i = 5; i < 15; i++) {
            x.fare(0, 0, 5, 0, 1);
        }
        x.fare(0, 0, 4, 0, 9);
        CHECK.same("the fare 15 with 4 legs", 154, x.stretch(1, 0));
        CHECK.same("the fare 0 with 1 leg", 1, drafted(1).stretch(1, 0));
    }

    // ---- promise 23

    private static void taxes() {
        DOC.in("Promise 23: taxes");
        DOC.asks("Returns the taxes of the draft for one person.", EdgeDraftTest::noneAndMostTaxes);
    }

    private static void noneAndMostTaxes() {
        CHECK.same("none of no leg", 0, new FareLattice().taxes());
        FareLattice x = new FareLattice();
        for (int i = 0; i < 5; i++) {
            x.setTax(i, 500);
        }
        for (int i = 0; i < 4; i++) {
            Networks.daily(x, i, i + 1, 3, 1, 1);
        }
        CHECK.same("none of no leg, with taxes set", 0, x.taxes());
        int[] legs = {1, 102, 203, 304};
        for (int i = 0; i < 4; i++) {
            x.leg(legs[i]);
            CHECK.same("of each departure", 500 * (i + 1), x.taxes());
        }
        x.setTax(4, 0);
        CHECK.same("none where it ends", 2000, x.taxes());
        CHECK.same("without any fare, and of no way", -1, x.price(1));
    }

    public static void main(String[] args) {
        leg();
        dropLegs();
        price();
        priceAnew();
        stretch();
        taxes();
        DOC.close();
    }
}
