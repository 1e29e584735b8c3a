/** Small networks that the tests share. */
final class Networks {
    private Networks() {
    }

    /** Adds a flight of the carrier 0 that goes on the days 0 to 20. */
    static int daily(FareLattice x, int from, int to, int hour, int length, int seats) {
        return daily(x, 0, from, to, hour, length, seats);
    }

    /** Adds a flight that goes on the days 0 to 20. */
    static int daily(FareLattice x, int carrier, int from, int to, int hour, int length, int seats) {
        int flight = x.flight(carrier, from, to, hour, length, seats);
        x.days(flight, 0, 20, 127);
        return flight;
    }

    /** Adds a flight of the carrier 0 that goes on one day, and answers its leg. */
    static int once(FareLattice x, int from, int to, int hour, int length, int seats, int day) {
        int flight = x.flight(0, from, to, hour, length, seats);
        x.days(flight, day, day, 127);
        return 100 * flight + day;
    }

    /** Holds the legs for 72 hours and answers the booking. */
    static int held(FareLattice x, int persons, int member, int... legs) {
        draft(x, legs);
        return x.hold(persons, member, 72);
    }

    /** Holds and tickets the legs. */
    static int ticketed(FareLattice x, int persons, int member, int... legs) {
        int booking = held(x, persons, member, legs);
        x.ticket(booking);
        return booking;
    }

    /** Puts just these legs into the draft. */
    static void draft(FareLattice x, int... legs) {
        x.dropLegs();
        for (int leg : legs) {
            x.leg(leg);
        }
    }

    /** Sets all four limits of a flight. */
    static void limits(FareLattice x, int flight, int limit) {
        for (int bucket = 0; bucket < 4; bucket++) {
            x.limit(flight, bucket, limit);
        }
    }

    /** Lets hours pass until the time is that. */
    static void passTo(FareLattice x, int from, int to) {
        for (int time = from; time < to; time += 100) {
            x.pass(Math.min(100, to - time));
        }
    }
}
