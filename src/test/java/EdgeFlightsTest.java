import java.util.List;

/** The document's terms on flights and buckets, sentence by sentence: a test of its own at the edges of each. */
public final class EdgeFlightsTest {
    private static final Check CHECK = new Check("EdgeFlightsTest");
    private static final Edges EDGES = new Edges(CHECK);
    private static final Sentences DOC = new Sentences(CHECK, List.of("Flights", "Buckets"));
    private static final String INDEX = Edges.INDEX;
    private static final String ARGUMENT = Edges.ARGUMENT;
    private static final String STATE = Edges.STATE;

    /** A flight 0 from 0 to 1 at 12 with 5 seats, on the days 0 to 20, and a fare 0 of 100 for it. */
    private static void oneFlight(FareLattice x) {
        Networks.daily(x, 0, 1, 12, 2, 5);
        x.fare(0, 0, 1, 0, 100);
    }

    /** Flights 0 and 1 that are linked: 0 to 1 at 8 for 2 hours, 1 to 2 at that hour for 2 hours. */
    private static FareLattice linked(int hour) {
        FareLattice x = new FareLattice();
        Networks.daily(x, 0, 1, 8, 2, 5);
        Networks.daily(x, 1, 2, hour, 2, 5);
        x.link(0, 1, false);
        return x;
    }

    // ---- flights

    private static void flights() {
        DOC.in("Flights");
        DOC.asks("Time is counted in hours, from 0, the same everywhere; a day is 24 of these.", EdgeFlightsTest::hoursAndDays);
        DOC.asks("There are the airports 0 to 5", EdgeFlightsTest::airports);
        DOC.asks(", each with a zone, 0 at first", EdgeFlightsTest::zoneAtFirst);
        DOC.asks(": the local hour is the hour and the zone, added.", EdgeFlightsTest::localHours);
        DOC.asks("There are the carriers 0 to 2.", () -> {
            EDGES.range(0, 2, INDEX, Edges.NEW, (x, carrier) -> x.flight(carrier, 0, 1, 0, 1, 1));
            EDGES.range(-1, 2, INDEX, Edges.NEW, (x, carrier) -> x.fare(carrier, 0, 1, 0, 1));
            EDGES.range(0, 2, INDEX, Edges.NEW, (x, carrier) -> x.owed(carrier, carrier));
        });
        DOC.asks("Flights are numbered from 0, at most 12", () -> {
            FareLattice x = new FareLattice();
            for (int i = 0; i < 12; i++) {
                CHECK.same("the next number", i, x.flight(0, 0, 1, 12, 1, 1));
            }
            CHECK.state("a 13th is none", () -> x.flight(0, 0, 1, 12, 1, 1));
            CHECK.index("it was not added", () -> x.limit(12, 0, 0));
            CHECK.same("the 12th was", 1, x.limit(11, 0, 0));
        });
        DOC.asks(": a flight has a carrier, an airport from which and one to which, a local hour of departure, a length in "
            + "hours, seats,", EdgeFlightsTest::partsOfAFlight);
        DOC.asks("and the days on which it goes: from a first to a last one, of these those whose remainder by 7 is in a set.",
            EdgeFlightsTest::daysOfAFlight);
        DOC.asks("A leg is a flight on such a day; it is told as 100 * the flight + the day.", EdgeFlightsTest::numbersOfLegs);
        DOC.asks("It departs at 24 * the day + the local hour less the zone of its airport", EdgeFlightsTest::departures);
        DOC.asks(", and the delay that it has, 0 at first", () -> {
            FareLattice x = Edges.after(EdgeFlightsTest::oneFlight);
            CHECK.same("0 at first", 36, x.departure(1));
            CHECK.same("0 at first, told", 0, x.standing(1));
            x.delay(1, 1);
            CHECK.same("1 hour", 37, x.departure(1));
            x.delay(1, 7);
            CHECK.same("8 hours", 44, x.departure(1));
        });
        DOC.asks("; it arrives so many hours later as it is long.", EdgeFlightsTest::arrivals);
        DOC.asks("It has departed when that hour has come", EdgeFlightsTest::departedAtItsHour);
        DOC.asks("(a cancelled one never departs)", EdgeFlightsTest::cancelledNeverDeparts);
        DOC.asks("; ahead of that it can be cancelled.", () -> {
            FareLattice x = Edges.after(EdgeFlightsTest::oneFlight);
            x.pass(11);
            CHECK.same("an hour ahead", 0, x.cancelLeg(0));
            x.pass(25);
            CHECK.state("at its hour", () -> x.cancelLeg(1));
            x.pass(1);
            CHECK.state("behind it", () -> x.cancelLeg(1));
        });
        DOC.asks("What departs ahead of the hour 0 has departed from the beginning.", EdgeFlightsTest::aheadOfTheHourZero);
    }

    private static void hoursAndDays() {
        FareLattice x = new FareLattice();
        x.setZone(0, 14);
        x.setZone(1, -12);
        Networks.daily(x, 0, 1, 23, 1, 1);
        Networks.daily(x, 1, 0, 0, 1, 1);
        for (int day = 1; day <= 20; day++) {
            CHECK.same("24 hours later, in the east", 24, x.departure(day) - x.departure(day - 1));
            CHECK.same("24 hours later, in the west", 24, x.departure(100 + day) - x.departure(100 + day - 1));
        }
        CHECK.same("9 o'clock", 9, x.departure(0));
        CHECK.same("12 o'clock", 12, x.departure(100));
        CHECK.same("counted from 0", 9, x.pass(9));
        CHECK.same("the hour has come in the east", 1, x.standing(0));
        x.pass(2);
        CHECK.same("not yet in the west", 0, x.standing(100));
        x.pass(1);
        CHECK.same("by the same count in the west", 1, x.standing(100));
    }

    private static void airports() {
        EDGES.range(0, 5, INDEX, Edges.NEW, (x, airport) -> x.setZone(airport, 1));
        EDGES.range(0, 5, INDEX, Edges.NEW, (x, airport) -> x.setTax(airport, 1));
        EDGES.range(0, 5, INDEX, Edges.NEW, (x, airport) -> x.flight(0, airport, 3, 0, 1, 1));
        EDGES.range(0, 5, INDEX, Edges.NEW, (x, airport) -> x.flight(0, 3, airport, 0, 1, 1));
        EDGES.range(0, 5, INDEX, Edges.NEW, (x, airport) -> x.fare(0, airport, 3, 0, 1));
        EDGES.range(0, 5, INDEX, Edges.NEW, (x, airport) -> x.fare(0, 3, airport, 0, 1));
    }

    private static void zoneAtFirst() {
        FareLattice x = new FareLattice();
        for (int airport = 0; airport < 6; airport++) {
            Networks.daily(x, airport, (airport + 1) % 6, 12, 1, 1);
            CHECK.same("no zone at " + airport, 36, x.departure(100 * airport + 1));
        }
    }

    private static void localHours() {
        int[] zones = {-12, -1, 1, 14};
        for (int zone : zones) {
            FareLattice x = new FareLattice();
            x.setZone(0, zone);
            Networks.daily(x, 0, 1, 0, 1, 1);
            Networks.daily(x, 0, 1, 23, 1, 1);
            x.fare(0, 0, 1, 0, 10);
            x.rules(0, 3, 3, 0, false, 0, false);
            CHECK.same("0 o'clock at " + zone, 72, x.departure(3) + zone);
            CHECK.same("23 o'clock at " + zone, 95, x.departure(103) + zone);
            int[] legs = {2, 3, 4, 102, 103, 104};
            for (int leg : legs) {
                Networks.draft(x, leg);
                CHECK.same("its local day at " + zone + ", leg " + leg, leg % 100 == 3 ? 10 : -1, x.price(1));
            }
        }
    }

    private static void partsOfAFlight() {
        FareLattice x = new FareLattice();
        Networks.daily(x, 2, 5, 4, 23, 20, 60);
        Networks.daily(x, 2, 4, 5, 20, 1, 1);
        x.fare(2, 5, 4, 0, 10);
        x.fare(1, 5, 4, 0, 1);
        x.fare(2, 4, 5, 0, 1);
        x.leg(1);
        CHECK.same("its carrier and airports", 10, x.price(9));
        CHECK.same("its seats", 60, x.open(1, 0));
        CHECK.same("its hour", 47, x.departure(1));
        CHECK.same("its length", 2, x.leg(103));
        CHECK.same("there and back, 9 are too many for 1 seat", -1, x.price(9));
        CHECK.same("and 1 is not", 11, x.price(1));
    }

    private static void daysOfAFlight() {
        FareLattice x = new FareLattice();
        x.flight(0, 0, 1, 12, 1, 1);
        x.days(0, 7, 14, 0b0000011);
        int[] days = {7, 8, 14};
        for (int day : days) {
            CHECK.same("on the day " + day, 24 * day + 12, x.departure(day));
        }
        int[] none = {0, 1, 6, 9, 13, 15, 21};
        for (int day : none) {
            CHECK.index("not on the day " + day, () -> x.departure(day));
        }
    }

    private static void numbersOfLegs() {
        FareLattice x = new FareLattice();
        for (int i = 0; i < 12; i++) {
            x.flight(0, 0, 1, i, 1, 1);
            x.days(i, 0, 60, 127);
        }
        for (int flight = 0; flight < 12; flight++) {
            for (int day = 0; day < 100; day++) {
                int leg = 100 * flight + day;
                if (day <= 60) {
                    CHECK.same("leg " + leg, 24 * day + flight, x.departure(leg));
                } else {
                    CHECK.index("leg " + leg, () -> x.departure(leg));
                }
            }
        }
        CHECK.index("of a 13th flight", () -> x.departure(1200));
        CHECK.index("below all flights", () -> x.departure(-40));
    }

    private static void departures() {
        int[] zones = {-12, 0, 14};
        int[] days = {0, 1, 60};
        int[] hours = {0, 23};
        for (int zone : zones) {
            for (int hour : hours) {
                FareLattice x = new FareLattice();
                x.setZone(3, zone);
                x.setZone(4, 5);
                x.flight(0, 3, 4, hour, 7, 1);
                x.days(0, 0, 60, 127);
                for (int day : days) {
                    CHECK.same("zone " + zone + ", day " + day, 24 * day + hour - zone, x.departure(day));
                }
            }
        }
    }

    private static void arrivals() {
        FareLattice x = new FareLattice();
        x.setZone(0, 14);
        x.setZone(1, -12);
        Networks.daily(x, 0, 1, 23, 20, 5);
        Networks.daily(x, 1, 0, 17, 1, 5);
        Networks.daily(x, 1, 0, 18, 1, 5);
        CHECK.same("it departs", 33, x.departure(1));
        CHECK.same("20 hours later", 53, x.departure(101));
        CHECK.same("an hour behind that", 54, x.departure(201));
        x.leg(1);
        CHECK.state("it arrives then", () -> x.leg(101));
        CHECK.same("and is there an hour later, whatever the zones", 2, x.leg(201));
        FareLattice y = new FareLattice();
        Networks.daily(y, 0, 1, 8, 1, 5);
        Networks.daily(y, 1, 0, 10, 1, 5);
        y.delay(1, 1);
        y.leg(1);
        CHECK.state("a delay goes along to the arrival", () -> y.leg(101));
    }

    private static void departedAtItsHour() {
        FareLattice x = new FareLattice();
        Networks.daily(x, 0, 1, 0, 1, 5);
        Networks.daily(x, 0, 1, 1, 1, 5);
        CHECK.same("the hour 0 has come at first", 1, x.standing(0));
        CHECK.same("the hour 1 has not", 0, x.standing(100));
        x.pass(1);
        CHECK.same("now it has", 1, x.standing(100));
        x.delay(1, 8);
        Networks.passTo(x, 1, 31);
        CHECK.same("a delayed one, an hour ahead", 80, x.standing(1));
        x.pass(1);
        CHECK.same("a delayed one at its hour", 81, x.standing(1));
        x.flight(0, 0, 1, 8, 1, 5);
        x.flight(0, 0, 1, 9, 1, 5);
        x.days(2, 1, 1, 127);
        x.days(3, 1, 1, 127);
        CHECK.same("one that was told when its hour had come", 1, x.standing(201));
        CHECK.same("one that was told an hour ahead", 0, x.standing(301));
    }

    private static void cancelledNeverDeparts() {
        FareLattice x = Edges.after(EdgeFlightsTest::oneFlight);
        int booking = Networks.ticketed(x, 1, 0, 1);
        int checked = Networks.ticketed(x, 1, 0, 1);
        x.pass(35);
        x.check(checked, 0);
        x.cancelLeg(1);
        x.pass(1);
        CHECK.same("at its hour", 2, x.standing(1));
        CHECK.same("nobody misses it", 100, x.coupon(booking, 0));
        CHECK.same("nobody flies with it", 101, x.coupon(checked, 0));
        Networks.passTo(x, 36, 136);
        CHECK.same("nor later", 2, x.standing(1));
        CHECK.same("nor are there points", 0, x.points(0));
    }

    private static void aheadOfTheHourZero() {
        for (int hour = 11; hour <= 16; hour++) {
            FareLattice x = new FareLattice();
            x.setZone(0, 14);
            Networks.daily(x, 0, 1, hour, 1, 5);
            x.fare(0, 0, 1, 0, 10);
            x.leg(0);
            boolean isAhead = hour > 14;
            CHECK.same("it departs", hour - 14, x.departure(0));
            CHECK.same("at " + hour + ", it has", isAhead ? 0 : 1, x.standing(0));
            CHECK.same("at " + hour + ", its seats", isAhead ? 5 : 0, x.open(0, 0));
            CHECK.same("at " + hour + ", its price", isAhead ? 10 : -1, x.price(1));
        }
        EDGES.refused(STATE, x -> {
            x.setZone(0, 14);
            oneFlight(x);
        }, x -> x.cancelLeg(0), x -> x.delay(0, 8));
    }

    // ---- links

    private static void links() {
        DOC.in("Flights");
        DOC.asks("A flight can be linked to another one that begins where it ends", () -> {
            EDGES.taken(EdgeFlightsTest::threeFlights, x -> x.link(0, 1, false), x -> x.link(0, 2, true), x -> x.link(1, 0, false));
            EDGES.refused(ARGUMENT, EdgeFlightsTest::threeFlights, x -> x.link(0, 0, false), x -> x.link(1, 2, false),
                x -> x.link(2, 0, true));
        });
        DOC.asks(": the aircraft of the flight on a day goes on as the other flight on the same day or the next one.",
            EdgeFlightsTest::sameOrNextDay);
        DOC.asks("If the leg that goes on would depart less than 1 hour behind the arrival of the leg ahead",
            EdgeFlightsTest::lessThanAnHourBehind);
        DOC.asks(", and both are there", EdgeFlightsTest::bothAreThere);
        DOC.asks("and not cancelled", EdgeFlightsTest::bothAreNotCancelled);
        DOC.asks(", and the second one has not departed", EdgeFlightsTest::secondHasNotDeparted);
        DOC.asks(", it is delayed until then", EdgeFlightsTest::delayedUntilThen);
        DOC.asks("; that goes on along links, leg by leg, as far as it has to", EdgeFlightsTest::asFarAsItHasTo);
        DOC.asks(", but at most over 6 links.", EdgeFlightsTest::overSixLinks);
        DOC.asks("(That is asked by a delay alone, not when a link is told.)", EdgeFlightsTest::askedByADelayAlone);
        DOC.asks("A leg whose delay would be above 8 hours is cancelled instead", EdgeFlightsTest::aboveEightHours);
        DOC.asks("(and takes nothing along).", EdgeFlightsTest::takesNothingAlong);
    }

    private static void threeFlights(FareLattice x) {
        Networks.daily(x, 0, 1, 8, 2, 5);
        Networks.daily(x, 1, 0, 11, 2, 5);
        Networks.daily(x, 1, 2, 11, 2, 5);
    }

    private static void sameOrNextDay() {
        FareLattice x = linked(11);
        CHECK.same("the same day's", 2, x.delay(1, 1));
        CHECK.same("it is delayed", 10, x.standing(101));
        CHECK.same("not the next day's", 0, x.standing(102));
        FareLattice y = new FareLattice();
        Networks.daily(y, 0, 1, 20, 4, 5);
        Networks.daily(y, 1, 2, 1, 2, 5);
        y.link(0, 1, true);
        CHECK.same("the next day's", 2, y.delay(1, 1));
        CHECK.same("it is delayed, too", 10, y.standing(102));
        CHECK.same("not the same day's", 0, y.standing(101));
    }

    private static void lessThanAnHourBehind() {
        for (int hours = 1; hours <= 4; hours++) {
            FareLattice x = linked(13);
            boolean isLess = 8 + hours + 2 + 1 > 13;
            CHECK.same("by " + hours, isLess ? 2 : 1, x.delay(1, hours));
            CHECK.same("by " + hours + ", the second one", isLess ? 10 * (hours - 2) : 0, x.standing(101));
        }
        FareLattice x = linked(4);
        CHECK.same("it departs far ahead of the arrival", 2, x.delay(1, 1));
        CHECK.same("8 hours later", 80, x.standing(101));
    }

    private static void bothAreThere() {
        FareLattice x = new FareLattice();
        Networks.once(x, 0, 1, 8, 2, 5, 3);
        Networks.once(x, 1, 2, 11, 2, 5, 4);
        x.flight(0, 1, 2, 11, 2, 5);
        x.link(0, 1, false);
        CHECK.same("there is none on that day", 1, x.delay(3, 1));
        x.link(0, 2, false);
        CHECK.same("there is none on any day", 1, x.delay(3, 1));
        FareLattice y = new FareLattice();
        Networks.once(y, 0, 1, 20, 4, 5, 60);
        Networks.once(y, 1, 2, 0, 2, 5, 60);
        y.link(0, 1, true);
        CHECK.same("there is no day behind the last one", 1, y.delay(60, 8));
        y.link(0, 1, false);
        CHECK.same("on the last one there is", 1, y.delay(60, 1));
        CHECK.same("but what is cancelled takes it not along", 0, y.standing(160));
    }

    private static void bothAreNotCancelled() {
        FareLattice x = linked(11);
        x.cancelLeg(101);
        CHECK.same("the second one is", 1, x.delay(1, 1));
        CHECK.same("it has no delay", 2, x.standing(101));
        x.delay(2, 8);
        CHECK.same("the first one is, by the same delay", 1, x.delay(2, 1));
        CHECK.same("the second one has that of the first time", 80, x.standing(102));
        x.cancelLeg(3);
        CHECK.state("the first one is, from before", () -> x.delay(3, 1));
        CHECK.same("the second one has none", 0, x.standing(103));
    }

    private static void secondHasNotDeparted() {
        FareLattice x = linked(4);
        x.pass(27);
        CHECK.same("an hour ahead of its departure", 2, x.delay(1, 1));
        CHECK.same("it waits", 80, x.standing(101));
        FareLattice y = linked(4);
        y.pass(28);
        CHECK.same("at its departure", 1, y.delay(1, 1));
        CHECK.same("it is gone", 1, y.standing(101));
    }

    private static void delayedUntilThen() {
        FareLattice x = linked(12);
        CHECK.same("2 hours later", 2, x.delay(1, 2));
        CHECK.same("until an hour behind the arrival", 24 + 10 + 2 + 1, x.departure(101));
        CHECK.same("by the hour that is missing alone", 10, x.standing(101));
        x.delay(101, 2);
        CHECK.same("it has more already", 1, x.delay(1, 2));
        CHECK.same("so it stays", 30, x.standing(101));
        CHECK.same("now by one", 2, x.delay(1, 1));
        CHECK.same("from 3 to 4", 40, x.standing(101));
    }

    /** Each of the flights 0, 1, 2 and 3 goes on as the next one: with no, with no and with 2 hours to spare. */
    private static void asFarAsItHasTo() {
        FareLattice x = new FareLattice();
        int[] hours = {4, 6, 8, 12};
        for (int i = 0; i < 4; i++) {
            Networks.daily(x, i, i + 1, hours[i], 1, 5);
            if (i > 0) {
                x.link(i - 1, i, false);
            }
        }
        CHECK.same("2 hours: the third has them to spare", 3, x.delay(1, 2));
        CHECK.same("the last one is not delayed", 0, x.standing(301));
        CHECK.same("1 hour more: all", 4, x.delay(1, 1));
        CHECK.same("the last one by an hour", 10, x.standing(301));
        CHECK.same("from the middle", 2, x.delay(201, 1));
        CHECK.same("those ahead stay", 30, x.standing(101));
    }

    private static void overSixLinks() {
        FareLattice x = new FareLattice();
        for (int i = 0; i < 9; i++) {
            Networks.daily(x, i % 2, 1 - i % 2, 2 * i, 1, 5);
            if (i > 0) {
                x.link(i - 1, i, false);
            }
        }
        CHECK.same("itself and six", 7, x.delay(1, 1));
        for (int i = 0; i < 9; i++) {
            CHECK.same("leg " + i, i <= 6 ? 10 : 0, x.standing(100 * i + 1));
        }
        CHECK.same("six from the second one reach the eighth", 7, x.delay(101, 1));
        CHECK.same("by the hours that are missing", 20, x.standing(701));
        CHECK.same("not the ninth", 0, x.standing(801));
        FareLattice y = new FareLattice();
        for (int i = 0; i < 2; i++) {
            Networks.daily(y, i, 1 - i, 10 + 2 * i, 1, 5);
        }
        y.link(0, 1, false);
        y.link(1, 0, true);
        CHECK.same("a round with hours to spare", 2, y.delay(1, 1));
    }

    private static void askedByADelayAlone() {
        FareLattice x = new FareLattice();
        Networks.daily(x, 0, 1, 8, 2, 5);
        Networks.daily(x, 1, 2, 9, 2, 5);
        x.link(0, 1, false);
        CHECK.same("not when a link is told", 0, x.standing(101));
        x.pass(1);
        x.repair();
        x.cancelLeg(2);
        CHECK.same("nor by other calls", 0, x.standing(101));
        CHECK.same("but by a delay", 2, x.delay(1, 1));
        CHECK.same("which asks for all that is missing", 30, x.standing(101));
    }

    private static void aboveEightHours() {
        FareLattice x = Edges.after(EdgeFlightsTest::oneFlight);
        x.delay(1, 8);
        CHECK.same("8 at once", 80, x.standing(1));
        x.delay(2, 4);
        x.delay(2, 4);
        CHECK.same("8 in two", 80, x.standing(2));
        CHECK.same("1 more", 1, x.delay(2, 1));
        CHECK.same("cancelled with its delay", 82, x.standing(2));
        x.delay(3, 1);
        x.delay(3, 8);
        CHECK.same("9 in two", 12, x.standing(3));
        FareLattice y = linked(4);
        y.delay(1, 1);
        CHECK.same("a linked one by 8", 80, y.standing(101));
        y.delay(2, 2);
        CHECK.same("a linked one by 9", 2, y.standing(102));
        CHECK.same("the one ahead is delayed", 20, y.standing(2));
    }

    private static void takesNothingAlong() {
        FareLattice x = linked(11);
        x.delay(1, 7);
        CHECK.same("both by 7", 140, x.standing(1) + x.standing(101));
        CHECK.same("the first alone", 1, x.delay(1, 2));
        CHECK.same("the second stays", 70, x.standing(101));
        FareLattice y = new FareLattice();
        int[] hours = {8, 9, 13};
        for (int i = 0; i < 3; i++) {
            Networks.daily(y, i, i + 1, hours[i], 2, 5);
        }
        y.link(0, 1, false);
        y.link(1, 2, false);
        CHECK.same("all three", 3, y.delay(1, 6));
        CHECK.same("the second by 8", 80, y.standing(101));
        CHECK.same("the third by 7", 70, y.standing(201));
        CHECK.same("the second is cancelled", 2, y.delay(1, 1));
        CHECK.same("with the delay that it had", 82, y.standing(101));
        CHECK.same("the third stays", 70, y.standing(201));
    }

    // ---- buckets

    private static void buckets() {
        DOC.in("Buckets");
        DOC.asks("The buckets are 0 to 3, 0 being the dearest.", () -> {
            EDGES.range(0, 3, INDEX, EdgeFlightsTest::oneFlight, (x, bucket) -> x.limit(0, bucket, 1));
            EDGES.range(0, 3, INDEX, EdgeFlightsTest::oneFlight, (x, bucket) -> x.open(1, bucket));
            EDGES.range(0, 3, INDEX, EdgeFlightsTest::oneFlight, (x, bucket) -> x.fare(0, 0, 1, bucket, 1));
            same("what is sold in 0 leaves the limits of others as they are", soldIn(0), 5, 5, 5, 5);
            same("what is sold in 3 is in none cheaper", soldIn(3), 4, 4, 4, 4);
        });
        DOC.asks("A flight has a limit for each, which is its seats at first", () -> {
            for (int bucket = 0; bucket < 4; bucket++) {
                FareLattice x = Edges.after(EdgeFlightsTest::oneFlight);
                CHECK.same("of " + bucket, 5, x.limit(0, bucket, 0));
            }
        });
        DOC.asks("; they are nested: a limit is for what is sold in that bucket and all with greater numbers together.",
            EdgeFlightsTest::nestedLimits);
        DOC.asks("So many seats of a leg are open in a bucket: the least of what is left of the limits of that bucket and all "
            + "with lower numbers", EdgeFlightsTest::leastOfWhatIsLeft);
        DOC.asks("; 0 if that is below 0", () -> {
            FareLattice x = Edges.after(EdgeFlightsTest::oneFlight);
            Networks.held(x, 3, -1, 1);
            x.limit(0, 0, 3);
            CHECK.same("just 0", 0, x.open(1, 0));
            x.limit(0, 0, 2);
            CHECK.same("below 0", 0, x.open(1, 0));
            x.limit(0, 0, 0);
            CHECK.same("far below 0", 0, x.open(1, 3));
            x.limit(0, 0, 4);
            CHECK.same("above 0", 1, x.open(1, 3));
        });
        DOC.asks(", or if the leg has departed or is cancelled.", EdgeFlightsTest::noneOfDepartedOrCancelled);
        DOC.asks("What is sold are the seats of all bookings that are held or ticketed, and whose coupon for the leg is OPEN, "
            + "CHECKED or FLOWN.", EdgeFlightsTest::sold);
    }

    /** One seat of the leg 1 is sold in that bucket; the limits are 5 each, but 6 for the bucket 0 if it is that one. */
    private static FareLattice soldIn(int bucket) {
        FareLattice x = new FareLattice();
        Networks.daily(x, 0, 1, 12, 2, 5);
        x.fare(0, 0, 1, bucket, 100);
        Networks.held(x, 1, -1, 1);
        if (bucket == 0) {
            x.limit(0, 0, 6);
        }
        return x;
    }

    private static void same(String what, FareLattice x, int... open) {
        for (int bucket = 0; bucket < 4; bucket++) {
            CHECK.same(what + ", " + bucket, open[bucket], x.open(1, bucket));
        }
    }

    private static void nestedLimits() {
        for (int sold = 0; sold < 4; sold++) {
            FareLattice x = new FareLattice();
            Networks.daily(x, 0, 1, 12, 2, 20);
            x.fare(0, 0, 1, sold, 100);
            Networks.held(x, 2, -1, 1);
            for (int bucket = 0; bucket < 4; bucket++) {
                Networks.limits(x, 0, 30);
                x.limit(0, bucket, 10);
                CHECK.same("of " + bucket + " with 2 sold in " + sold, bucket <= sold ? 8 : 10, x.open(1, bucket));
            }
        }
    }

    private static void leastOfWhatIsLeft() {
        FareLattice x = Edges.after(EdgeFlightsTest::oneFlight);
        int[][] limits = {{4, 3, 2, 1}, {1, 2, 3, 4}, {3, 1, 4, 2}, {0, 5, 5, 5}, {5, 5, 5, 0}};
        int[][] open = {{4, 3, 2, 1}, {1, 1, 1, 1}, {3, 1, 1, 1}, {0, 0, 0, 0}, {5, 5, 5, 0}};
        for (int i = 0; i < limits.length; i++) {
            for (int bucket = 0; bucket < 4; bucket++) {
                x.limit(0, bucket, limits[i][bucket]);
            }
            same("limits " + i, x, open[i]);
        }
    }

    private static void noneOfDepartedOrCancelled() {
        FareLattice x = Edges.after(EdgeFlightsTest::oneFlight);
        x.pass(35);
        same("an hour ahead", x, 5, 5, 5, 5);
        x.pass(1);
        same("departed", x, 0, 0, 0, 0);
        FareLattice y = Edges.after(EdgeFlightsTest::oneFlight);
        y.cancelLeg(1);
        same("cancelled", y, 0, 0, 0, 0);
        CHECK.same("the next day's is neither", 5, y.open(2, 0));
    }

    /** Seats are told by load(), as none are open when the leg has departed. */
    private static void sold() {
        FareLattice x = new FareLattice();
        Networks.daily(x, 0, 1, 12, 2, 60);
        Networks.daily(x, 1, 2, 15, 2, 60);
        x.fare(0, 0, 1, 0, 100);
        x.fare(0, 0, 2, 3, 100);
        sold("nobody", 0, x);
        int held = Networks.held(x, 1, -1, 1);
        sold("HELD", 1, x);
        int ticketed = Networks.ticketed(x, 2, -1, 1);
        sold("TICKETED", 3, x);
        Networks.draft(x, 1);
        x.hold(5, -1, 1);
        sold("HELD for an hour", 8, x);
        x.pass(1);
        sold("LAPSED", 3, x);
        x.cancel(Networks.ticketed(x, 7, -1, 1));
        sold("CANCELLED", 3, x);
        int checked = Networks.ticketed(x, 9, -1, 1);
        x.pass(30);
        x.check(checked, 0);
        sold("CHECKED", 12, x);
        x.pass(5);
        sold("FLOWN; MISSED is not, HELD is", 10, x);
        CHECK.same("MISSED", 103, x.coupon(ticketed, 0));
        x.cancel(checked);
        sold("FLOWN, but CANCELLED", 1, x);
        x.ticket(held);
        sold("OPEN of what is TICKETED, though it has departed", 1, x);
        sold("nobody on the leg behind it", 0, soldOfMovedAndVoid());
    }

    /** Two ticketed parties whose leg 1 is cancelled: one seat is left on another leg, so one is MOVED and one is VOID. */
    private static FareLattice soldOfMovedAndVoid() {
        FareLattice x = new FareLattice();
        Networks.once(x, 0, 1, 12, 2, 60, 1);
        Networks.once(x, 0, 1, 15, 2, 1, 1);
        x.fare(0, 0, 1, 3, 100);
        Networks.ticketed(x, 1, -1, 1);
        Networks.ticketed(x, 1, -1, 1);
        x.cancelLeg(1);
        sold("OPEN on a cancelled leg", 2, x);
        CHECK.same("one is MOVED, one VOID", 101, x.repair());
        CHECK.same("OPEN on the other leg", (Object) 1.0f, (Object) x.load(101));
        return x;
    }

    private static void sold(String what, int seats, FareLattice x) {
        CHECK.same(what, (Object) (seats / 60.0f), (Object) x.load(1));
    }

    public static void main(String[] args) {
        flights();
        links();
        buckets();
        DOC.close();
    }
}
