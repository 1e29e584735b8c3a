import java.util.ArrayList;
import java.util.List;

/**
 * Reservations on a small network of flights: seats in nested buckets, fares and the cheapest way to
 * combine them, bookings with their coupons, waitlists, bad days, shares between carriers, and points.
 */
public final class FareLattice {
    /** In place of a carrier, member or price. */
    public static final int NONE = -1;

    private static final int WAITS_NO_MORE = -2;
    private static final int NEVER = 2147483647;

    private static final int AIRPORTS = 6;
    private static final int CARRIERS = 3;
    private static final int FLIGHTS = 12;
    private static final int DAYS = 61;
    private static final int EARLIEST_RULE_DAY = -1;
    private static final int LATEST_RULE_DAY = 61;
    private static final int BUCKETS = 4;
    private static final int FARES = 16;
    private static final int MEMBERS = 5;
    private static final int BOOKINGS = 40;
    private static final int WISHES = 20;
    private static final int JOURNEY_LEGS = 4;
    private static final int COUPONS = 10;
    private static final int PERSONS = 9;

    private static final int DAY_HOURS = 24;
    private static final int CONNECTION_HOURS = 1;
    private static final int STOP_HOURS = 6;
    private static final int CHECK_HOURS = 24;
    private static final int WISH_HOURS = 24;
    private static final int DETOUR_HOURS = 48;
    private static final int MOST_DELAY = 8;
    private static final int MOST_LINKS = 6;
    private static final int LEG_CODE = 100;

    private static final int HIGHEST_TIER = 3;
    private static final int TIER_POINTS = 500;
    private static final int HOUR_POINTS = 10;

    private static final int HELD = 0;
    private static final int TICKETED = 1;
    private static final int LAPSED = 2;
    private static final int CANCELLED = 3;

    private static final int OPEN = 0;
    private static final int CHECKED = 1;
    private static final int FLOWN = 2;
    private static final int MISSED = 3;
    private static final int MOVED = 4;
    private static final int VOID = 5;

    private final int[] zones = new int[AIRPORTS];
    private final int[] airportTaxes = new int[AIRPORTS];
    private final ArrayList<Flight> flights = new ArrayList<Flight>();
    private final ArrayList<Fare> fares = new ArrayList<Fare>();
    private final ArrayList<Leg> draft = new ArrayList<Leg>();
    private final Pricing pricing = new Pricing();
    private final ArrayList<Booking> bookings = new ArrayList<Booking>();
    private final ArrayList<Wish> wishes = new ArrayList<Wish>();
    private final ArrayList<Leg> delayedNow = new ArrayList<Leg>();
    private final ArrayList<Booking> deniedNow = new ArrayList<Booking>();
    private final Detour detour = new Detour();
    private final int[] memberPoints = new int[MEMBERS];
    private final int[] earned = new int[CARRIERS * CARRIERS];
    private int now = 0;
    private int deniedPersons = 0;

    /** A flight of a carrier between two airports, with a leg for each day on which it goes. */
    private static final class Flight {
        final int number;
        final int carrier;
        final int from;
        final int to;
        final int hour;
        final int length;
        final int seats;
        final int[] limits = new int[BUCKETS];
        final Leg[] legs = new Leg[DAYS];
        int firstHour;
        boolean hasDays;
        Flight onward;
        boolean isOnwardNextDay;

        Flight(int number, int carrier, int from, int to, int hour, int length, int seats) {
            this.number = number;
            this.carrier = carrier;
            this.from = from;
            this.to = to;
            this.hour = hour;
            this.length = length;
            this.seats = seats;
            for (int i = 0; i < BUCKETS; i++) {
                limits[i] = seats;
            }
        }

        Leg on(int day) {
            return day < 0 || day >= DAYS ? null : legs[day];
        }

        /** The lowest day whose leg can depart at that hour or later, as no delay is as long as a day. */
        int dayToLookFrom(int time) {
            return Math.max(0, Math.floorDiv(time - firstHour, DAY_HOURS));
        }

        /** For the same reason at most one leg of a flight departs in an hour. */
        Leg departingAt(int time) {
            Leg leg = on(dayToLookFrom(time));
            return leg != null && !leg.isCancelled && leg.departs == time ? leg : null;
        }
    }

    /** A flight on a day. Its hours hold its delay already. */
    private static final class Leg {
        final Flight flight;
        final int day;
        final int number;
        int departs;
        int arrives;
        int delayed;
        boolean isCancelled;

        Leg(Flight flight, int day) {
            this.flight = flight;
            this.day = day;
            this.number = LEG_CODE * flight.number + day;
            this.departs = flight.firstHour + DAY_HOURS * day;
            this.arrives = departs + flight.length;
        }

        boolean hasDeparted(int now) {
            return !isCancelled && departs <= now;
        }

        boolean isAhead(int now) {
            return !isCancelled && departs > now;
        }

        /** The day and hour of a flight are told in local time, so the zone does not come in here. */
        int localDay() {
            return day + (flight.hour + delayed) / DAY_HOURS;
        }

        void push(int hours) {
            delayed += hours;
            departs += hours;
            arrives += hours;
        }

        /** The leg as which the aircraft goes on, or null. */
        Leg onwardLeg() {
            if (flight.onward == null) {
                return null;
            }
            return flight.onward.on(flight.isOnwardNextDay ? day + 1 : day);
        }
    }

    /** A fare with its rules. */
    private static final class Fare {
        final int number;
        final int carrier;
        final int from;
        final int to;
        final int bucket;
        final int amount;
        int firstDay = EARLIEST_RULE_DAY;
        int lastDay = LATEST_RULE_DAY;
        int advance;
        boolean isReturn;
        int stay;
        boolean isOwn;
        int percent = 50;

        Fare(int number, int carrier, int from, int to, int bucket, int amount) {
            this.number = number;
            this.carrier = carrier;
            this.from = from;
            this.to = to;
            this.bucket = bucket;
            this.amount = amount;
        }

        /** Whether a stretch of this fare may begin with the leg. */
        boolean beginsWith(Leg leg, int now) {
            int day = leg.localDay();
            return from == leg.flight.from && day >= firstDay && day <= lastDay
                && leg.departs - now >= DAY_HOURS * advance;
        }
    }

    /** Looks for the cheapest way to cut a journey into stretches and to give each a fare. */
    private static final class Pricing {
        final int[] openSeats = new int[JOURNEY_LEGS * BUCKETS];
        final ArrayList<Fare> tried = new ArrayList<Fare>();
        final int[] triedLegs = new int[JOURNEY_LEGS];
        final ArrayList<Fare> best = new ArrayList<Fare>();
        final int[] bestLegs = new int[JOURNEY_LEGS];
        List<Fare> fares = new ArrayList<Fare>();
        List<Leg> legs = new ArrayList<Leg>();
        int persons;
        int now;
        int amount = NONE;

        void begin(List<Fare> allFares, List<Leg> journey, int seats, int hour) {
            fares = allFares;
            legs = journey;
            persons = seats;
            now = hour;
            tried.clear();
            best.clear();
            amount = NONE;
        }

        void findCheapest() {
            if (!legs.isEmpty()) {
                tryStretches(this, 0, 0, 0);
            }
        }

        void findCheapestByLegs() {
            if (!legs.isEmpty()) {
                tryLegs(this, 0, 0, 0);
            }
        }

        /** Ways come in the order that settles ties, so a later one has to be cheaper to be taken. */
        private static void tryStretches(Pricing p, int begin, int depth, int sum) {
            if (begin >= p.legs.size()) {
                p.keepIfPossible(sum);
                return;
            }
            if (depth < 0 || depth >= JOURNEY_LEGS) {
                return;
            }
            for (int count = 1; begin + count <= p.legs.size(); count++) {
                for (int i = 0; i < p.fares.size(); i++) {
                    Fare fare = p.fares.get(i);
                    if (p.isCheaper(sum + fare.amount) && p.fits(fare, begin, count)) {
                        p.tried.add(fare);
                        p.triedLegs[depth] = count;
                        tryStretches(p, begin + count, depth + 1, sum + fare.amount);
                        p.dropLastTried();
                    }
                }
            }
        }

        /** Each leg goes on with the fare of the leg ahead, or begins a stretch with any fare. */
        private static void tryLegs(Pricing p, int leg, int depth, int sum) {
            Fare ahead = p.lastTried();
            boolean isEnded = ahead == null || p.endsAhead(ahead, leg);
            if (leg >= p.legs.size()) {
                if (isEnded) {
                    p.keepIfPossible(sum);
                }
                return;
            }
            if (ahead != null && depth > 0 && depth <= JOURNEY_LEGS && p.takes(ahead, leg) && p.isNear(leg)) {
                p.triedLegs[depth - 1]++;
                tryLegs(p, leg + 1, depth, sum);
                p.triedLegs[depth - 1]--;
            }
            if (!isEnded || leg < 0 || depth < 0 || depth >= JOURNEY_LEGS) {
                return;
            }
            for (int i = 0; i < p.fares.size(); i++) {
                Fare fare = p.fares.get(i);
                if (fare.beginsWith(p.legs.get(leg), p.now) && p.takes(fare, leg)) {
                    p.tried.add(fare);
                    p.triedLegs[depth] = 1;
                    tryLegs(p, leg + 1, depth + 1, sum + fare.amount);
                    p.dropLastTried();
                }
            }
        }

        private Fare lastTried() {
            return tried.isEmpty() ? null : tried.get(tried.size() - 1);
        }

        private void dropLastTried() {
            if (!tried.isEmpty()) {
                tried.remove(tried.size() - 1);
            }
        }

        private boolean isCheaper(int sum) {
            return amount == NONE || sum < amount;
        }

        private boolean endsAhead(Fare fare, int leg) {
            return leg > 0 && leg <= legs.size() && fare.to == legs.get(leg - 1).flight.to;
        }

        private boolean fits(Fare fare, int begin, int count) {
            if (begin < 0 || begin >= legs.size() || !fare.beginsWith(legs.get(begin), now)
                    || !endsAhead(fare, begin + count)) {
                return false;
            }
            for (int i = begin; i < begin + count; i++) {
                if (!takes(fare, i) || i > begin && !isNear(i)) {
                    return false;
                }
            }
            return true;
        }

        /** Whether the carrier of a fare and the seats that are open allow it on a leg. */
        private boolean takes(Fare fare, int leg) {
            int row = leg * BUCKETS + fare.bucket;
            if (leg < 0 || leg >= legs.size() || row < 0 || row >= openSeats.length) {
                return false;
            }
            return (fare.carrier == NONE || fare.carrier == legs.get(leg).flight.carrier)
                && openSeats[row] >= persons;
        }

        /** Whether a leg is near enough behind the one ahead to be of the same stretch. */
        private boolean isNear(int leg) {
            return leg > 0 && leg < legs.size() && hoursAhead(legs, leg) < DAY_HOURS;
        }

        private void keepIfPossible(int sum) {
            if (!isCheaper(sum) || !areCarriersCombined() || !areReturnsWhole()) {
                return;
            }
            amount = sum;
            best.clear();
            for (int i = 0; i < tried.size() && i < JOURNEY_LEGS; i++) {
                best.add(tried.get(i));
                bestLegs[i] = triedLegs[i];
            }
        }

        private boolean areCarriersCombined() {
            boolean isAnyOwn = false;
            boolean isMixed = false;
            for (int i = 0; i < tried.size(); i++) {
                isAnyOwn = isAnyOwn || tried.get(i).isOwn;
                isMixed = isMixed || tried.get(i).carrier != tried.get(0).carrier;
            }
            return !isAnyOwn || !isMixed;
        }

        private boolean areReturnsWhole() {
            int halves = 0;
            int stay = 0;
            for (int i = 0; i < tried.size(); i++) {
                Fare fare = tried.get(i);
                if (fare.isReturn) {
                    halves++;
                    stay = Math.max(stay, fare.stay);
                }
            }
            if (halves == 0) {
                return true;
            }
            int turn = triedLegs[0];
            if (tried.size() != 2 || halves != 2 || turn < 1 || turn >= legs.size()) {
                return false;
            }
            return legs.get(0).flight.from == legs.get(legs.size() - 1).flight.to
                && hoursAhead(legs, turn) >= DAY_HOURS * stay;
        }
    }

    /** What a booking has for a leg, with what its carrier earns and the tax paid at its departure. */
    private static final class Coupon {
        final Leg leg;
        final int bucket;
        final int stretch;
        int share;
        int tax;
        int state = OPEN;
        boolean isDenied;

        Coupon(Leg leg, int bucket, int stretch, int share, int tax) {
            this.leg = leg;
            this.bucket = bucket;
            this.stretch = stretch;
            this.share = share;
            this.tax = tax;
        }

        Coupon copied() {
            Coupon copy = new Coupon(leg, bucket, stretch, share, tax);
            copy.state = state;
            return copy;
        }

        boolean isToFly() {
            return state == OPEN || state == CHECKED;
        }

        boolean isReplaced() {
            return state == MOVED || state == VOID;
        }
    }

    /** A party with a journey, the fares of its stretches, and its coupons. */
    private static final class Booking {
        final int member;
        final int seller;
        final int until;
        final ArrayList<Coupon> coupons = new ArrayList<Coupon>();
        final int[] amounts = new int[JOURNEY_LEGS];
        final int[] percents = new int[JOURNEY_LEGS];
        int persons;
        int state = HELD;
        boolean isVolunteer;

        Booking(int persons, int member, int seller, int until) {
            this.persons = persons;
            this.member = member;
            this.seller = seller;
            this.until = until;
        }

        boolean hasSeats() {
            return state == HELD || state == TICKETED;
        }

        /** Ends the booking: what could still be flown of it is void. */
        void end(int endState) {
            state = endState;
            for (int i = 0; i < coupons.size(); i++) {
                Coupon coupon = coupons.get(i);
                if (coupon.isToFly()) {
                    coupon.state = VOID;
                }
            }
        }

        /** The coupon with which the leg is still to be flown, or null. */
        Coupon couponToFly(Leg leg) {
            for (int i = 0; i < coupons.size(); i++) {
                Coupon coupon = coupons.get(i);
                if (coupon.leg == leg && coupon.isToFly()) {
                    return coupon;
                }
            }
            return null;
        }

        boolean isCheckedFor(Leg leg) {
            Coupon coupon = couponToFly(leg);
            return coupon != null && coupon.state == CHECKED;
        }

        int placeOf(Coupon coupon) {
            for (int i = 0; i < coupons.size(); i++) {
                if (coupons.get(i) == coupon) {
                    return i;
                }
            }
            return NONE;
        }

        /** The leg of the nearest coupon, going by steps of 1 or -1, that is not replaced, or null. */
        Leg nearestLeg(Coupon coupon, int step) {
            int i = placeOf(coupon) + step;
            for (int steps = 0; steps < COUPONS; steps++) {
                if (i < 0 || i >= coupons.size()) {
                    return null;
                }
                if (!coupons.get(i).isReplaced()) {
                    return coupons.get(i).leg;
                }
                i += step;
            }
            return null;
        }

        /** Whether a coupon that is not replaced is for the leg; one that is being moved is of these. */
        boolean usesLeg(Leg leg) {
            for (int i = 0; i < coupons.size(); i++) {
                if (coupons.get(i).leg == leg && !coupons.get(i).isReplaced()) {
                    return true;
                }
            }
            return false;
        }

        /** Whether a coupon's leg is cancelled, or can't be reached any more from the one ahead. */
        boolean isBroken(Coupon coupon) {
            Leg leg = coupon.leg;
            Leg ahead = nearestLeg(coupon, -1);
            return leg.isCancelled || ahead != null && leg.departs < ahead.arrives + CONNECTION_HOURS;
        }

        int paidForOne() {
            int sum = 0;
            for (int i = 0; i < JOURNEY_LEGS; i++) {
                sum += amounts[i];
            }
            for (int i = 0; i < coupons.size(); i++) {
                sum += coupons.get(i).tax;
            }
            return sum;
        }

        int backForOne() {
            int sum = 0;
            for (int i = 0; i < JOURNEY_LEGS; i++) {
                if (!isBegun(i)) {
                    sum += amounts[i] * percents[i] / 100;
                }
            }
            for (int i = 0; i < coupons.size(); i++) {
                Coupon coupon = coupons.get(i);
                if (coupon.isToFly() || coupon.state == VOID) {
                    sum += coupon.tax;
                }
            }
            return sum;
        }

        private boolean isBegun(int stretch) {
            for (int i = 0; i < coupons.size(); i++) {
                Coupon coupon = coupons.get(i);
                if (coupon.stretch == stretch && (coupon.state == FLOWN || coupon.state == MISSED)) {
                    return true;
                }
            }
            return false;
        }

        /** Some persons with all that the booking has. */
        Booking parted(int others) {
            Booking copy = new Booking(others, member, seller, until);
            copy.state = state;
            copy.isVolunteer = isVolunteer;
            for (int i = 0; i < JOURNEY_LEGS; i++) {
                copy.amounts[i] = amounts[i];
                copy.percents[i] = percents[i];
            }
            for (int i = 0; i < coupons.size(); i++) {
                copy.coupons.add(coupons.get(i).copied());
            }
            return copy;
        }
    }

    /** Persons who wait for a journey. */
    private static final class Wish {
        final int persons;
        final int member;
        final ArrayList<Leg> legs = new ArrayList<Leg>();
        int booking = NONE;

        Wish(int persons, int member) {
            this.persons = persons;
            this.member = member;
        }

        boolean waits(int now) {
            return booking == NONE && !legs.isEmpty() && !legs.get(0).hasDeparted(now);
        }
    }

    /** The best way found so far to carry on those whose coupon is moved. */
    private static final class Detour {
        Leg first;
        Leg second;
        int latestArrival;

        void begin(int arrivesUntil) {
            first = null;
            second = null;
            latestArrival = arrivesUntil;
        }

        int legs() {
            if (first == null) {
                return 0;
            }
            return second == null ? 1 : 2;
        }

        /**
         * Takes the way if it is better; from then on none that arrives later is of use. Ways are offered
         * by rising numbers of their legs, so of two that are as early the later one needs fewer legs.
         */
        void offer(Leg one, Leg two) {
            int arrives = two == null ? one.arrives : two.arrives;
            boolean hasFewerLegs = two == null && second != null;
            if (arrives > latestArrival || arrives == latestArrival && first != null && !hasFewerLegs) {
                return;
            }
            first = one;
            second = two;
            latestArrival = arrives;
        }
    }

    /** Creates a network without flights and fares, at the hour 0. */
    public FareLattice() {
    }

    // ---- the network

    /** Sets the zone of an airport; returns the one before. */
    public int setZone(int airport, int zone)
            throws IndexOutOfBoundsException, IllegalArgumentException, IllegalStateException {
        needIndex(airport, AIRPORTS);
        needRange(zone, -12, 14);
        needState(flights.isEmpty());
        int before = zones[airport];
        zones[airport] = zone;
        return before;
    }

    /** Sets the tax of an airport; returns the one before. */
    public int setTax(int airport, int tax) throws IndexOutOfBoundsException, IllegalArgumentException {
        needIndex(airport, AIRPORTS);
        needRange(tax, 0, 500);
        int before = airportTaxes[airport];
        airportTaxes[airport] = tax;
        return before;
    }

    /** Adds a flight, which goes on no day yet; returns its number. */
    public int flight(int carrier, int from, int to, int hour, int length, int seats)
            throws IndexOutOfBoundsException, IllegalArgumentException, IllegalStateException {
        needIndex(carrier, CARRIERS);
        needIndex(from, AIRPORTS);
        needIndex(to, AIRPORTS);
        needArgument(from != to);
        needRange(hour, 0, DAY_HOURS - 1);
        needRange(length, 1, 20);
        needRange(seats, 1, 60);
        needState(flights.size() < FLIGHTS);
        int number = flights.size();
        Flight added = new Flight(number, carrier, from, to, hour, length, seats);
        added.firstHour = hour - zones[from];
        flights.add(added);
        return number;
    }

    /** Sets the days on which a flight goes, once; returns how many they are. */
    public int days(int flight, int first, int last, int set)
            throws IndexOutOfBoundsException, IllegalArgumentException, IllegalStateException {
        Flight found = findFlight(flight);
        needRange(first, 0, DAYS - 1);
        needRange(last, first, DAYS - 1);
        needRange(set, 1, 127);
        needState(!found.hasDays);
        found.hasDays = true;
        int count = 0;
        for (int day = first; day <= last; day++) {
            if ((set >> (day % 7) & 1) == 1) {
                found.legs[day] = new Leg(found, day);
                count++;
            }
        }
        return count;
    }

    /** Sets a limit of a flight; returns the one before. */
    public int limit(int flight, int bucket, int limit) throws IndexOutOfBoundsException, IllegalArgumentException {
        Flight found = findFlight(flight);
        needIndex(bucket, BUCKETS);
        needRange(limit, 0, found.seats + 10);
        int before = found.limits[bucket];
        found.limits[bucket] = limit;
        return before;
    }

    /** Links a flight to another one, or to none; returns the other one before, or NONE. */
    public int link(int flight, int other, boolean isNextDay)
            throws IndexOutOfBoundsException, IllegalArgumentException {
        Flight found = findFlight(flight);
        Flight onward = other == NONE ? null : findFlight(other);
        needArgument(onward == null || onward.from == found.to);
        int before = found.onward == null ? NONE : found.onward.number;
        found.onward = onward;
        found.isOnwardNextDay = isNextDay;
        return before;
    }

    /** Adds a fare; returns its number. */
    public int fare(int carrier, int from, int to, int bucket, int amount)
            throws IndexOutOfBoundsException, IllegalArgumentException, IllegalStateException {
        needIndexOrNone(carrier, CARRIERS);
        needIndex(from, AIRPORTS);
        needIndex(to, AIRPORTS);
        needIndex(bucket, BUCKETS);
        needArgument(from != to);
        needRange(amount, 1, 5000);
        needState(fares.size() < FARES);
        int number = fares.size();
        fares.add(new Fare(number, carrier, from, to, bucket, amount));
        return number;
    }

    /** Sets the rules of a fare, for what is held from now on. */
    public void rules(int fare, int first, int last, int advance, boolean isReturn, int stay, boolean isOwn)
            throws IndexOutOfBoundsException, IllegalArgumentException {
        Fare found = findFare(fare);
        needRange(first, EARLIEST_RULE_DAY, LATEST_RULE_DAY);
        needRange(last, first, LATEST_RULE_DAY);
        needRange(advance, 0, 30);
        needRange(stay, 0, 30);
        found.firstDay = first;
        found.lastDay = last;
        found.advance = advance;
        found.isReturn = isReturn;
        found.stay = stay;
        found.isOwn = isOwn;
    }

    /** Sets how much of a fare is given back, of what is held from now on; returns the percentage before. */
    public int back(int fare, int percent) throws IndexOutOfBoundsException, IllegalArgumentException {
        Fare found = findFare(fare);
        needRange(percent, 0, 100);
        int before = found.percent;
        found.percent = percent;
        return before;
    }

    // ---- legs

    /** Returns the hour at which a leg departs. */
    public int departure(int leg) throws IndexOutOfBoundsException {
        return findLeg(leg).departs;
    }

    /** Returns 10 * the delay of a leg + 0, 1 if it has departed, 2 if it is cancelled. */
    public int standing(int leg) throws IndexOutOfBoundsException {
        Leg found = findLeg(leg);
        int kind = found.isCancelled ? 2 : 0;
        return 10 * found.delayed + (found.hasDeparted(now) ? 1 : kind);
    }

    /** Returns how many seats of a leg are open in a bucket. */
    public int open(int leg, int bucket) throws IndexOutOfBoundsException {
        Leg found = findLeg(leg);
        needIndex(bucket, BUCKETS);
        return openSeats(found, bucket);
    }

    /** Returns the seats of a leg that are sold, divided by all its seats. */
    public float load(int leg) throws IndexOutOfBoundsException {
        Leg found = findLeg(leg);
        if (found.flight.seats < 1) {
            return 0;
        }
        return (float) soldSeats(found, 0) / (float) found.flight.seats;
    }

    /** Cancels a leg; returns how many persons were to fly with it, of what is ticketed. */
    public int cancelLeg(int leg) throws IndexOutOfBoundsException, IllegalStateException {
        Leg found = findLeg(leg);
        needState(found.isAhead(now));
        int persons = 0;
        for (int i = 0; i < bookings.size(); i++) {
            Booking booking = bookings.get(i);
            if (booking.state == TICKETED && booking.couponToFly(found) != null) {
                persons += booking.persons;
            }
        }
        withdraw(found);
        return persons;
    }

    /** Delays a leg, and what is linked; returns how many legs are delayed or cancelled by that. */
    public int delay(int leg, int hours)
            throws IndexOutOfBoundsException, IllegalArgumentException, IllegalStateException {
        Leg pushed = findLeg(leg);
        needRange(hours, 1, MOST_DELAY);
        needState(pushed.isAhead(now));
        delayedNow.clear();
        int more = hours;
        for (int links = 0; links <= MOST_LINKS; links++) {
            addOnce(delayedNow, pushed);
            if (pushed.delayed + more > MOST_DELAY) {
                withdraw(pushed);
                return delayedNow.size();
            }
            pushed.push(more);
            int ready = pushed.arrives + CONNECTION_HOURS;
            pushed = pushed.onwardLeg();
            if (pushed == null || !pushed.isAhead(now) || pushed.departs >= ready) {
                return delayedNow.size();
            }
            more = ready - pushed.departs;
        }
        return delayedNow.size();
    }

    /** Repairs all journeys; returns 100 * the coupons that became MOVED + those that became VOID. */
    public int repair() {
        int moved = 0;
        int voided = 0;
        for (int tier = HIGHEST_TIER; tier >= 0; tier--) {
            for (int i = 0; i < bookings.size(); i++) {
                Booking booking = bookings.get(i);
                if (booking.state != TICKETED || tierOf(booking.member) != tier) {
                    continue;
                }
                for (int place = 0; place < booking.coupons.size() && place < COUPONS; place++) {
                    Coupon coupon = booking.coupons.get(place);
                    if (!coupon.isToFly() || !booking.isBroken(coupon)) {
                        continue;
                    }
                    if (moveOn(booking, coupon)) {
                        moved++;
                    } else {
                        voided++;
                    }
                }
            }
        }
        return 100 * moved + voided;
    }

    // ---- the journey that is drafted

    /** Puts a leg behind those of the draft; returns how many it has then. */
    public int leg(int leg) throws IndexOutOfBoundsException, IllegalStateException {
        Leg found = findLeg(leg);
        int count = draft.size();
        needState(count < JOURNEY_LEGS);
        for (int i = 0; i < count; i++) {
            needState(draft.get(i) != found);
        }
        if (count > 0) {
            Leg ahead = draft.get(count - 1);
            needState(ahead.flight.to == found.flight.from
                && found.departs >= ahead.arrives + CONNECTION_HOURS);
        }
        draft.add(found);
        return count + 1;
    }

    /** Empties the draft; returns how many legs it had. */
    public int dropLegs() {
        int count = draft.size();
        draft.clear();
        return count;
    }

    /** Builds the price of the draft; returns the fares for one person, or NONE. */
    public int price(int persons) throws IllegalArgumentException {
        needRange(persons, 1, PERSONS);
        buildPrice(draft, persons);
        return pricing.amount;
    }

    /** Returns what price() tells, found by trying all fares for all legs. */
    public int priceAnew(int persons) throws IllegalArgumentException {
        needRange(persons, 1, PERSONS);
        beginPrice(draft, persons);
        pricing.findCheapestByLegs();
        return pricing.amount;
    }

    /** Returns 10 * the fare of a stretch of the cheapest way + how many legs it has. */
    public int stretch(int persons, int stretch) throws IndexOutOfBoundsException, IllegalArgumentException {
        needRange(persons, 1, PERSONS);
        buildPrice(draft, persons);
        needIndex(stretch, Math.min(pricing.best.size(), JOURNEY_LEGS));
        return 10 * pricing.best.get(stretch).number + pricing.bestLegs[stretch];
    }

    /** Returns the taxes of the draft for one person. */
    public int taxes() {
        int sum = 0;
        for (int i = 0; i < draft.size(); i++) {
            sum += taxAt(draft, i);
        }
        return sum;
    }

    // ---- bookings

    /** Holds the draft, which is empty then; returns the number of the booking. */
    public int hold(int persons, int member, int hours)
            throws IndexOutOfBoundsException, IllegalArgumentException, IllegalStateException {
        needIndexOrNone(member, MEMBERS);
        needRange(persons, 1, PERSONS);
        needRange(hours, 1, 72);
        buildPrice(draft, persons);
        needState(pricing.amount != NONE && bookings.size() < BOOKINGS);
        int booking = holdPriced(draft, persons, member, hours);
        draft.clear();
        return booking;
    }

    /** Makes a wish of the draft, which is empty then; returns the number of the wish. */
    public int wish(int persons, int member)
            throws IndexOutOfBoundsException, IllegalArgumentException, IllegalStateException {
        needIndexOrNone(member, MEMBERS);
        needRange(persons, 1, PERSONS);
        needState(!draft.isEmpty() && wishes.size() < WISHES);
        Wish wish = new Wish(persons, member);
        for (int i = 0; i < draft.size(); i++) {
            wish.legs.add(draft.get(i));
        }
        wishes.add(wish);
        draft.clear();
        return wishes.size() - 1;
    }

    /** Clears the list of wishes; returns how many are held by that. */
    public int clear() {
        int held = 0;
        for (int tier = HIGHEST_TIER; tier >= 0; tier--) {
            for (int i = 0; i < wishes.size(); i++) {
                Wish wish = wishes.get(i);
                if (bookings.size() >= BOOKINGS || !wish.waits(now) || tierOf(wish.member) != tier) {
                    continue;
                }
                buildPrice(wish.legs, wish.persons);
                if (pricing.amount != NONE) {
                    wish.booking = holdPriced(wish.legs, wish.persons, wish.member, WISH_HOURS);
                    held++;
                }
            }
        }
        return held;
    }

    /** Returns the booking by which a wish is held; -1 if it waits, -2 if it waits no more. */
    public int wished(int wish) throws IndexOutOfBoundsException {
        needIndex(wish, wishes.size());
        Wish found = wishes.get(wish);
        return found.booking != NONE || found.waits(now) ? found.booking : WAITS_NO_MORE;
    }

    /** Tickets a booking; returns what is paid for all persons. */
    public int ticket(int booking) throws IndexOutOfBoundsException, IllegalStateException {
        Booking found = findBooking(booking);
        needState(found.state == HELD);
        found.state = TICKETED;
        return found.persons * found.paidForOne();
    }

    /** Parts a party; returns the number of the new booking. */
    public int part(int booking, int persons)
            throws IndexOutOfBoundsException, IllegalArgumentException, IllegalStateException {
        Booking found = findBooking(booking);
        needRange(persons, 1, found.persons - 1);
        needState(found.hasSeats() && bookings.size() < BOOKINGS);
        bookings.add(found.parted(persons));
        found.persons -= persons;
        return bookings.size() - 1;
    }

    /** Cancels a booking; returns what is given back. */
    public int cancel(int booking) throws IndexOutOfBoundsException, IllegalStateException {
        Booking found = findBooking(booking);
        needState(found.hasSeats());
        int given = found.state == HELD ? 0 : found.persons * found.backForOne();
        found.end(CANCELLED);
        return given;
    }

    /** Returns 1000 * the state of a booking + 10 * its coupons + its persons. */
    public int booking(int booking) throws IndexOutOfBoundsException {
        Booking found = findBooking(booking);
        return 1000 * found.state + 10 * found.coupons.size() + found.persons;
    }

    /** Returns 100 * the leg of a coupon + 10 * its bucket + its state. */
    public int coupon(int booking, int coupon) throws IndexOutOfBoundsException {
        Coupon found = findCoupon(booking, coupon);
        return 100 * found.leg.number + 10 * found.bucket + found.state;
    }

    /** Returns the share that the carrier of a coupon earns, for one person, when it is FLOWN. */
    public int share(int booking, int coupon) throws IndexOutOfBoundsException {
        return findCoupon(booking, coupon).share;
    }

    /** Checks a booking in for a leg; returns how many persons are CHECKED for it then. */
    public int check(int booking, int coupon) throws IndexOutOfBoundsException, IllegalStateException {
        Coupon found = findCoupon(booking, coupon);
        Leg leg = found.leg;
        needState(findBooking(booking).state == TICKETED && found.state == OPEN);
        needState(leg.isAhead(now) && leg.departs - now <= CHECK_HOURS);
        found.state = CHECKED;
        return checkedPersons(leg);
    }

    /** Lets a booking volunteer to be denied, or not any more; returns true if it does then. */
    public boolean volunteer(int booking) throws IndexOutOfBoundsException {
        Booking found = findBooking(booking);
        found.isVolunteer = !found.isVolunteer;
        return found.isVolunteer;
    }

    // ---- time, points and shares

    /** Lets hours pass; returns the time then. */
    public int pass(int hours) throws IllegalArgumentException {
        needRange(hours, 1, 100);
        for (int i = 0; i < hours; i++) {
            now++;
            lapseHeld();
            for (int f = 0; f < flights.size(); f++) {
                Leg leg = flights.get(f).departingAt(now);
                if (leg != null) {
                    takeOff(leg);
                }
            }
        }
        return now;
    }

    /** Returns how many persons were denied in all. */
    public int denied() {
        return deniedPersons;
    }

    /** Returns the points of a member. */
    public int points(int member) throws IndexOutOfBoundsException {
        needIndex(member, MEMBERS);
        return memberPoints[member];
    }

    /** Returns what a seller owes a carrier, or has earned itself of its own bookings. */
    public int owed(int seller, int carrier) throws IndexOutOfBoundsException {
        needIndex(seller, CARRIERS);
        needIndex(carrier, CARRIERS);
        return earned[seller * CARRIERS + carrier];
    }

    // ---- what calls ask of their arguments and of the state

    private static void needIndex(int value, int count) {
        if (value < 0 || value >= count) {
            throw new IndexOutOfBoundsException();
        }
    }

    private static void needIndexOrNone(int value, int count) {
        if (value != NONE) {
            needIndex(value, count);
        }
    }

    private static void needRange(int value, int least, int most) {
        needArgument(value >= least && value <= most);
    }

    private static void needArgument(boolean isGood) {
        if (!isGood) {
            throw new IllegalArgumentException();
        }
    }

    private static void needState(boolean isPossible) {
        if (!isPossible) {
            throw new IllegalStateException();
        }
    }

    private Flight findFlight(int flight) {
        needIndex(flight, flights.size());
        return flights.get(flight);
    }

    private Fare findFare(int fare) {
        needIndex(fare, fares.size());
        return fares.get(fare);
    }

    private Leg findLeg(int leg) {
        needIndex(leg, LEG_CODE * flights.size());
        Leg found = flights.get(leg / LEG_CODE).on(leg % LEG_CODE);
        if (found == null) {
            throw new IndexOutOfBoundsException();
        }
        return found;
    }

    private Booking findBooking(int booking) {
        needIndex(booking, bookings.size());
        return bookings.get(booking);
    }

    private Coupon findCoupon(int booking, int coupon) {
        Booking found = findBooking(booking);
        needIndex(coupon, found.coupons.size());
        return found.coupons.get(coupon);
    }

    // ---- seats and prices

    /** The seats of a leg that are sold in a bucket and all with greater numbers together. */
    private int soldSeats(Leg leg, int bucket) {
        int sold = 0;
        for (int i = 0; i < bookings.size(); i++) {
            Booking booking = bookings.get(i);
            if (booking.state != HELD && booking.state != TICKETED) {
                continue;
            }
            for (int j = 0; j < booking.coupons.size(); j++) {
                Coupon coupon = booking.coupons.get(j);
                if (coupon.leg == leg && coupon.bucket >= bucket && coupon.state <= FLOWN) {
                    sold += booking.persons;
                }
            }
        }
        return sold;
    }

    private int openSeats(Leg leg, int bucket) {
        if (!leg.isAhead(now)) {
            return 0;
        }
        int least = leg.flight.limits[0] - soldSeats(leg, 0);
        for (int i = 1; i <= bucket && i < BUCKETS; i++) {
            least = Math.min(least, leg.flight.limits[i] - soldSeats(leg, i));
        }
        return Math.max(0, least);
    }

    /** The hours between the arrival of the leg ahead and the departure of a leg of a journey. */
    private static int hoursAhead(List<Leg> legs, int leg) {
        if (leg < 1 || leg >= legs.size()) {
            return 0;
        }
        return legs.get(leg).departs - legs.get(leg - 1).arrives;
    }

    private int taxAt(List<Leg> legs, int leg) {
        if (leg < 0 || leg >= legs.size()) {
            return 0;
        }
        int airport = legs.get(leg).flight.from;
        boolean isPaid = leg == 0 || hoursAhead(legs, leg) >= STOP_HOURS;
        return isPaid && airport >= 0 && airport < AIRPORTS ? airportTaxes[airport] : 0;
    }

    private void beginPrice(List<Leg> legs, int persons) {
        pricing.begin(fares, legs, persons, now);
        for (int i = 0; i < legs.size() && i < JOURNEY_LEGS; i++) {
            for (int bucket = 0; bucket < BUCKETS; bucket++) {
                pricing.openSeats[i * BUCKETS + bucket] = openSeats(legs.get(i), bucket);
            }
        }
    }

    private void buildPrice(List<Leg> legs, int persons) {
        beginPrice(legs, persons);
        pricing.findCheapest();
    }

    /** Holds a journey at the price that was just built for it; returns the number of the booking. */
    private int holdPriced(List<Leg> legs, int persons, int member, int hours) {
        int seller = legs.isEmpty() ? 0 : legs.get(0).flight.carrier;
        Booking booking = new Booking(persons, member, seller, now + hours);
        for (int i = 0; i < pricing.best.size() && i < JOURNEY_LEGS; i++) {
            Fare fare = pricing.best.get(i);
            booking.amounts[i] = fare.amount;
            booking.percents[i] = fare.percent;
            addCoupons(booking, i, fare, legs, pricing.bestLegs[i]);
        }
        bookings.add(booking);
        return bookings.size() - 1;
    }

    /**
     * Adds the coupons of a stretch of so many legs, which begins where the coupons end so far; the amount is
     * shared by lengths, the last leg having what is left.
     */
    private void addCoupons(Booking booking, int stretch, Fare fare, List<Leg> legs, int count) {
        int begin = booking.coupons.size();
        int end = begin + count;
        int length = 0;
        for (int i = begin; i < end && i < legs.size(); i++) {
            length += legs.get(i).flight.length;
        }
        int left = fare.amount;
        for (int i = begin; i < end && i < legs.size(); i++) {
            Leg leg = legs.get(i);
            int share = left;
            if (i < end - 1 && length > 0) {
                share = fare.amount * leg.flight.length / length;
            }
            left -= share;
            booking.coupons.add(new Coupon(leg, fare.bucket, stretch, share, taxAt(legs, i)));
        }
    }

    // ---- departures and bad days

    /** Who is no member has the tier 0. */
    private int tierOf(int member) {
        if (member < 0 || member >= MEMBERS) {
            return 0;
        }
        return Math.min(HIGHEST_TIER, memberPoints[member] / TIER_POINTS);
    }

    private int checkedPersons(Leg leg) {
        int persons = 0;
        for (int i = 0; i < bookings.size(); i++) {
            if (bookings.get(i).isCheckedFor(leg)) {
                persons += bookings.get(i).persons;
            }
        }
        return persons;
    }

    private void lapseHeld() {
        for (int i = 0; i < bookings.size(); i++) {
            Booking booking = bookings.get(i);
            if (booking.state == HELD && booking.until <= now) {
                booking.end(LAPSED);
            }
        }
    }

    private void takeOff(Leg leg) {
        denySurplus(leg);
        for (int i = 0; i < bookings.size(); i++) {
            Booking booking = bookings.get(i);
            Coupon coupon = booking.couponToFly(leg);
            if (booking.state == TICKETED && coupon != null) {
                flyOrMiss(booking, coupon);
            }
        }
        for (int i = 0; i < deniedNow.size(); i++) {
            Booking booking = deniedNow.get(i);
            Coupon coupon = booking.couponToFly(leg);
            if (coupon != null) {
                moveOn(booking, coupon);
            }
        }
    }

    /** Denies bookings in their order until all who are left have seats. */
    private void denySurplus(Leg leg) {
        deniedNow.clear();
        int surplus = checkedPersons(leg) - leg.flight.seats;
        for (int turn = 0; turn < 2 && surplus > 0; turn++) {
            boolean isVolunteersTurn = turn == 0;
            for (int tier = 0; tier <= HIGHEST_TIER; tier++) {
                for (int i = bookings.size() - 1; i >= 0 && surplus > 0; i--) {
                    Booking booking = bookings.get(i);
                    if (booking.isVolunteer == isVolunteersTurn && tierOf(booking.member) == tier
                            && booking.isCheckedFor(leg)) {
                        deny(booking, leg);
                        surplus -= booking.persons;
                    }
                }
            }
        }
    }

    private void deny(Booking booking, Leg leg) {
        Coupon coupon = booking.couponToFly(leg);
        if (coupon != null) {
            coupon.isDenied = true;
        }
        deniedNow.add(booking);
        deniedPersons += booking.persons;
    }

    private void flyOrMiss(Booking booking, Coupon coupon) {
        if (coupon.isDenied) {
            return;
        }
        if (coupon.state == OPEN) {
            coupon.state = MISSED;
            return;
        }
        coupon.state = FLOWN;
        Flight flight = coupon.leg.flight;
        addAt(memberPoints, booking.member, HOUR_POINTS * flight.length * booking.persons);
        addAt(earned, booking.seller * CARRIERS + flight.carrier, coupon.share * booking.persons);
    }

    /** Adds to what stands at a place of a row; who is no member has none. */
    private static void addAt(int[] row, int place, int amount) {
        if (place >= 0 && place < row.length) {
            row[place] += amount;
        }
    }

    /** Cancels a leg, and with it what is held with it. */
    private void withdraw(Leg leg) {
        leg.isCancelled = true;
        for (int i = 0; i < bookings.size(); i++) {
            Booking booking = bookings.get(i);
            if (booking.state == HELD && booking.couponToFly(leg) != null) {
                booking.end(CANCELLED);
            }
        }
    }

    private static void addOnce(ArrayList<Leg> legs, Leg leg) {
        for (int i = 0; i < legs.size(); i++) {
            if (legs.get(i) == leg) {
                return;
            }
        }
        legs.add(leg);
    }

    /** Puts other legs in place of a coupon's, and returns true; or makes it void. */
    private boolean moveOn(Booking booking, Coupon coupon) {
        findDetour(booking, coupon);
        int added = detour.legs();
        int place = booking.placeOf(coupon);
        if (added == 0 || place == NONE || booking.coupons.size() + added > COUPONS) {
            coupon.state = VOID;
            return false;
        }
        booking.coupons.add(place + 1, new Coupon(detour.first, 0, coupon.stretch, coupon.share, coupon.tax));
        if (detour.second != null) {
            booking.coupons.add(place + 2, new Coupon(detour.second, 0, coupon.stretch, 0, 0));
        }
        coupon.state = MOVED;
        coupon.share = 0;
        coupon.tax = 0;
        return true;
    }

    /** Legs of a flight depart and arrive in the order of their days, as no delay is as long as a day. */
    private void findDetour(Booking booking, Coupon coupon) {
        Leg own = coupon.leg;
        Leg ahead = booking.nearestLeg(coupon, -1);
        Leg behind = booking.nearestLeg(coupon, 1);
        int earliest = now + 1;
        if (ahead != null) {
            earliest = Math.max(earliest, ahead.arrives + CONNECTION_HOURS);
        }
        detour.begin(behind == null ? NEVER : behind.departs - CONNECTION_HOURS);
        for (int f = 0; f < flights.size(); f++) {
            Flight flight = flights.get(f);
            if (flight.from != own.flight.from) {
                continue;
            }
            for (int day = flight.dayToLookFrom(earliest); day < DAYS; day++) {
                Leg leg = flight.on(day);
                if (leg == null || leg.departs < earliest) {
                    continue;
                }
                if (leg.departs > own.departs + DETOUR_HOURS || leg.arrives > detour.latestArrival) {
                    break;
                }
                if (!booking.usesLeg(leg) && openSeats(leg, 0) >= booking.persons) {
                    offerFrom(booking, own, leg);
                }
            }
        }
    }

    /** Offers a leg as a way to where a coupon's leg ends, alone or with the best of each flight behind it. */
    private void offerFrom(Booking booking, Leg own, Leg first) {
        if (first.flight.to == own.flight.to) {
            detour.offer(first, null);
            return;
        }
        int earliest = first.arrives + CONNECTION_HOURS;
        for (int f = 0; f < flights.size(); f++) {
            Flight flight = flights.get(f);
            if (flight.from != first.flight.to || flight.to != own.flight.to) {
                continue;
            }
            for (int day = flight.dayToLookFrom(earliest); day < DAYS; day++) {
                Leg leg = flight.on(day);
                if (leg == null || leg.departs < earliest) {
                    continue;
                }
                if (leg.arrives > detour.latestArrival) {
                    break;
                }
                if (!booking.usesLeg(leg) && openSeats(leg, 0) >= booking.persons) {
                    detour.offer(first, leg);
                    break;
                }
            }
        }
    }
}
