import java.util.ArrayList;
import java.util.List;

/** Plays made-up runs on FareLattice and on Model, and compares every answer and what can be asked of the state. */
public final class ModelTest {
    private static final int RUNS = 700;
    private static final int CALLS = 330;

    private final Check check;
    private final int run;
    private final FareLattice lattice = new FareLattice();
    private final Model model = new Model();
    private final List<String> calls = new ArrayList<>();
    private final int[] seen;
    private final int airports;
    private final int lastDay;
    private final boolean isBusy;
    private final int mood;
    private final int[] from = new int[12];
    private final int[] to = new int[12];
    private final int[] length = new int[12];
    private int flights = 0;
    private int fares = 0;
    private int bookings = 0;
    private long seed;

    /** What the runs have come by, so that it is told when they get too tame. */
    private static final String[] SIGHTS = {"holds", "tickets", "checks", "flown", "missed", "moved", "void", "denied",
        "lapsed", "cancelled", "wishes held", "wishes over", "chains", "prices", "stretches", "parts", "refunds",
        "repairs", "owed to others", "two legs put in", "tiers", "own or return prices"};

    private ModelTest(Check check, int run, int[] seen) {
        this.check = check;
        this.run = run;
        this.seen = seen;
        this.seed = 88172645463325252L + 7919L * run;
        for (int i = 0; i < 8; i++) {
            below(2);
        }
        this.airports = 2 + below(3);
        this.lastDay = 2 + below(8);
        this.isBusy = chance(70);
        this.mood = below(3);
    }

    private int below(int n) {
        seed ^= seed << 13;
        seed ^= seed >>> 7;
        seed ^= seed << 17;
        return (int) Math.floorMod(seed >>> 11, (long) n);
    }

    private int between(int a, int b) {
        return a + below(b - a + 1);
    }

    private boolean chance(int percent) {
        return below(100) < percent;
    }

    private double both(String call, Check.Call ours, Check.Call theirs) {
        calls.add(call);
        String want = Check.told(theirs);
        String got = Check.told(ours);
        if (!want.equals(got) && !check.isAnyWrong()) {
            for (int i = 0; i < calls.size(); i++) {
                System.out.println("  " + calls.get(i));
            }
        }
        check.same("run " + run + ", call " + calls.size() + ", " + call, want, got);
        return want.startsWith("throws") ? Double.NaN : Double.parseDouble(want);
    }

    private int wild(int value) {
        return chance(3) ? between(-3, 70) : value;
    }

    private void network() {
        for (int i = 0; i < airports; i++) {
            int airport = i;
            int zone = chance(50) ? 0 : between(-12, 14);
            int tax = between(0, 40);
            both("setZone(" + airport + ", " + zone + ")", () -> lattice.setZone(airport, zone), () -> model.setZone(airport, zone));
            both("setTax(" + airport + ", " + tax + ")", () -> lattice.setTax(airport, tax), () -> model.setTax(airport, tax));
        }
        int count = isBusy ? 12 : between(3, 12);
        for (int i = 0; i < count; i++) {
            addFlight();
        }
        int prices = between(isBusy ? 12 : 3, 16);
        for (int i = 0; i < prices; i++) {
            addFare();
        }
        for (int i = 0; i < flights; i++) {
            if (chance(60)) {
                addLink(i);
            }
        }
    }

    private void addFlight() {
        int carrier = chance(50) ? 0 : wild(below(3));
        int begin = wild(below(airports));
        int end = wild((begin + 1 + below(airports - 1)) % airports);
        int hour = wild(below(24));
        int hours = wild(chance(60) ? between(1, 4) : between(1, 20));
        int seats = wild(chance(70) ? between(1, 5) : between(1, 60));
        double made = both("flight(" + carrier + ", " + begin + ", " + end + ", " + hour + ", " + hours + ", " + seats + ")",
            () -> lattice.flight(carrier, begin, end, hour, hours, seats), () -> model.flight(carrier, begin, end, hour, hours, seats));
        if (made >= 0) {
            int flight = flights++;
            from[flight] = begin;
            to[flight] = end;
            length[flight] = hours;
            int first = wild(chance(80) ? below(3) : below(20));
            int last = wild(Math.max(first, lastDay));
            int set = wild(chance(70) ? 127 : between(1, 127));
            both("days(" + flight + ", " + first + ", " + last + ", " + set + ")",
                () -> lattice.days(flight, first, last, set), () -> model.days(flight, first, last, set));
            boolean isOverbooked = mood == 2 && chance(70);
            for (int i = 0; i < 4; i++) {
                if (isOverbooked || chance(40)) {
                    addLimit(flight, i, isOverbooked ? seats + 4 : seats);
                }
            }
        }
    }

    private void addLimit(int flight, int bucket, int seats) {
        int limit = chance(70) ? seats + between(0, 10) : between(0, seats + 2);
        both("limit(" + flight + ", " + bucket + ", " + limit + ")",
            () -> lattice.limit(flight, bucket, limit), () -> model.limit(flight, bucket, limit));
    }

    private void addLink(int flight) {
        int one = wild(flight);
        int other = below(flights);
        for (int i = 0; i < 20 && from[other] != to[flight]; i++) {
            other = below(flights);
        }
        int two = chance(5) ? -1 : wild(other);
        boolean next = chance(40);
        both("link(" + one + ", " + two + ", " + next + ")", () -> lattice.link(one, two, next), () -> model.link(one, two, next));
    }

    private void addFare() {
        int carrier = wild(chance(40) ? -1 : chance(50) ? 0 : below(3));
        int begin = wild(below(airports));
        int end = wild((begin + 1 + below(airports - 1)) % airports);
        int bucket = wild(below(4));
        int amount = wild(chance(50) ? 10 * between(1, 9) : between(1, 300));
        double made = both("fare(" + carrier + ", " + begin + ", " + end + ", " + bucket + ", " + amount + ")",
            () -> lattice.fare(carrier, begin, end, bucket, amount), () -> model.fare(carrier, begin, end, bucket, amount));
        if (made >= 0) {
            fares++;
            if (chance(50)) {
                setRules((int) made);
            }
            int percent = wild(below(101));
            both("back(" + (int) made + ", " + percent + ")", () -> lattice.back((int) made, percent), () -> model.back((int) made, percent));
        }
    }

    private void setRules(int fare) {
        int first = wild(chance(80) ? -1 : between(-1, 4));
        int last = wild(chance(80) ? 61 : between(Math.min(first, 12), 12));
        int advance = wild(chance(70) ? 0 : below(4));
        boolean isReturn = chance(35);
        int stay = wild(below(3));
        boolean isOwn = chance(35);
        both("rules(" + fare + ", " + first + ", " + last + ", " + advance + ", " + isReturn + ", " + stay + ", " + isOwn + ")",
            () -> { lattice.rules(fare, first, last, advance, isReturn, stay, isOwn); return 0; },
            () -> { model.rules(fare, first, last, advance, isReturn, stay, isOwn); return 0; });
    }

    private int someLeg() {
        return wild(100 * below(Math.max(1, flights)) + below(lastDay + 2));
    }

    /** A leg for which all holds, out of some that are looked at, and the soonest of these; or some leg. */
    private int legAhead(int behind) {
        int best = -1;
        for (int i = 0; i < 40; i++) {
            int leg = 100 * below(Math.max(1, flights)) + below(lastDay + 1);
            String standing = Check.told(() -> model.standing(leg));
            if (standing.startsWith("throws") || Double.parseDouble(standing) % 10 != 0) {
                continue;
            }
            if (behind >= 0 && (from[leg / 100] != to[behind / 100]
                    || model.departure(leg) <= model.departure(behind) + length[behind / 100])) {
                continue;
            }
            if (best < 0 || model.departure(leg) < model.departure(best) && chance(80)) {
                best = leg;
            }
            if (i > 6 && best >= 0) {
                break;
            }
        }
        return best < 0 ? someLeg() : wild(best);
    }

    private void draft() {
        if (chance(85)) {
            both("dropLegs()", () -> lattice.dropLegs(), () -> model.dropLegs());
        }
        int wanted = between(1, chance(50) ? 2 : 4);
        int last = -1;
        for (int i = 0; i < wanted; i++) {
            int leg = legAhead(last);
            if (both("leg(" + leg + ")", () -> lattice.leg(leg), () -> model.leg(leg)) > 0) {
                last = leg;
            }
        }
        int persons = wild(between(1, 3));
        double price = both("price(" + persons + ")", () -> lattice.price(persons), () -> model.price(persons));
        both("priceAnew(" + persons + ")", () -> lattice.priceAnew(persons), () -> model.price(persons));
        both("taxes()", () -> lattice.taxes(), () -> model.taxes());
        seen[13] += price > 0 ? 1 : 0;
        for (int s = -1; s < 5; s++) {
            int stretch = s;
            double told = both("stretch(" + persons + ", " + stretch + ")",
                () -> lattice.stretch(persons, stretch), () -> model.stretch(persons, stretch));
            seen[14] += s > 0 && told >= 0 ? 1 : 0;
        }
    }

    private void hold() {
        draft();
        int persons = wild(between(1, chance(70) ? 2 : 9));
        int member = wild(between(-1, 4));
        if (chance(20)) {
            both("wish(" + persons + ", " + member + ")", () -> lattice.wish(persons, member), () -> model.wish(persons, member));
            return;
        }
        int hours = wild(chance(80) ? between(10, 72) : between(1, 5));
        double made = both("hold(" + persons + ", " + member + ", " + hours + ")",
            () -> lattice.hold(persons, member, hours), () -> model.hold(persons, member, hours));
        if (made >= 0) {
            seen[0]++;
            bookings = (int) made + 1;
            if (chance(75)) {
                ticket((int) made);
            }
        }
    }

    private void ticket(int booking) {
        seen[1] += both("ticket(" + booking + ")", () -> lattice.ticket(booking), () -> model.ticket(booking)) > 0 ? 1 : 0;
    }

    private int someBooking() {
        return wild(below(Math.max(1, bookings)));
    }

    private void checkIn() {
        for (int i = 0; i < bookings; i++) {
            for (int k = 0; k < 10; k++) {
                int booking = i;
                int coupon = k;
                if (chance(85) && !Check.told(() -> model.coupon(booking, coupon)).startsWith("throws")
                        && model.coupon(booking, coupon) % 10 == 0) {
                    int before = calls.size();
                    double told = both("check(" + booking + ", " + coupon + ")",
                        () -> lattice.check(booking, coupon), () -> model.check(booking, coupon));
                    if (told >= 0) {
                        seen[2]++;
                    } else {
                        calls.remove(before);
                    }
                }
            }
        }
    }

    private void step() {
        int kind = bookings == 0 && chance(80) ? 0 : below(100);
        if (mood == 1 && chance(40)) {
            kind = 62 + below(16);
        } else if (mood == 2 && chance(40)) {
            kind = 30 + below(32);
        }
        int booking = someBooking();
        if (kind < 26) {
            hold();
        } else if (kind < 30) {
            ticket(booking);
        } else if (kind < 48) {
            int hours = wild(between(1, isBusy ? 5 : 20));
            both("pass(" + hours + ")", () -> lattice.pass(hours), () -> model.pass(hours));
        } else if (kind < 62) {
            checkIn();
        } else if (kind < 68) {
            int leg = legAhead(-1);
            int hours = wild(between(1, 8));
            seen[12] += both("delay(" + leg + ", " + hours + ")", () -> lattice.delay(leg, hours), () -> model.delay(leg, hours)) > 2 ? 1 : 0;
        } else if (kind < 71) {
            int leg = legAhead(-1);
            both("cancelLeg(" + leg + ")", () -> lattice.cancelLeg(leg), () -> model.cancelLeg(leg));
        } else if (kind < 78) {
            double told = both("repair()", () -> lattice.repair(), () -> model.repair());
            seen[17] += told > 0 ? 1 : 0;
        } else if (kind < 82) {
            both("clear()", () -> lattice.clear(), () -> model.clear());
        } else if (kind < 86) {
            int persons = wild(between(1, 3));
            double made = both("part(" + booking + ", " + persons + ")", () -> lattice.part(booking, persons), () -> model.part(booking, persons));
            if (made >= 0) {
                seen[15]++;
                bookings = (int) made + 1;
            }
        } else if (kind < 88) {
            seen[16] += both("cancel(" + booking + ")", () -> lattice.cancel(booking), () -> model.cancel(booking)) > 0 ? 1 : 0;
        } else if (kind < 93) {
            both("volunteer(" + booking + ")", () -> lattice.volunteer(booking) ? 1 : 0, () -> model.volunteer(booking) ? 1 : 0);
        } else if (kind < 95) {
            addLimit(below(Math.max(1, flights)), below(4), between(1, 5));
        } else if (kind < 96) {
            setRules(below(Math.max(1, fares)));
        } else if (kind < 97) {
            addFare();
        } else if (kind < 98) {
            addFlight();
        } else {
            int airport = wild(below(airports));
            int tax = wild(between(0, 40));
            both("setTax(" + airport + ", " + tax + ")", () -> lattice.setTax(airport, tax), () -> model.setTax(airport, tax));
        }
    }

    private void quietly(String call, Check.Call ours, Check.Call theirs) {
        int before = calls.size();
        both(call, ours, theirs);
        calls.remove(before);
    }

    private void compareBookings() {
        for (int i = -1; i <= 40; i++) {
            int booking = i;
            quietly("booking(" + booking + ")", () -> lattice.booking(booking), () -> model.booking(booking));
            if (Check.told(() -> model.booking(booking)).startsWith("throws")) {
                if (i >= 0) {
                    bookings = i;
                    break;
                }
                continue;
            }
            for (int k = -1; k <= model.booking(booking) / 10 % 100; k++) {
                int coupon = k;
                quietly("coupon(" + booking + ", " + coupon + ")", () -> lattice.coupon(booking, coupon), () -> model.coupon(booking, coupon));
                quietly("share(" + booking + ", " + coupon + ")", () -> lattice.share(booking, coupon), () -> model.share(booking, coupon));
            }
        }
        quietly("denied()", () -> lattice.denied(), () -> model.denied());
        for (int i = 0; i < 5; i++) {
            int member = i;
            quietly("points(" + member + ")", () -> lattice.points(member), () -> model.points(member));
        }
        for (int i = 0; i < 9; i++) {
            int seller = i / 3;
            int carrier = i % 3;
            quietly("owed(" + seller + ", " + carrier + ")", () -> lattice.owed(seller, carrier), () -> model.owed(seller, carrier));
        }
        for (int i = 0; i < 20; i++) {
            int wish = i;
            quietly("wished(" + wish + ")", () -> lattice.wished(wish), () -> model.wished(wish));
        }
    }

    private void compareLegs() {
        for (int f = 0; f < flights; f++) {
            for (int day = 0; day <= lastDay + 1; day++) {
                int leg = 100 * f + day;
                quietly("departure(" + leg + ")", () -> lattice.departure(leg), () -> model.departure(leg));
                quietly("standing(" + leg + ")", () -> lattice.standing(leg), () -> model.standing(leg));
                quietly("load(" + leg + ")", () -> lattice.load(leg), () -> model.load(leg));
                for (int b = 0; b < 4; b++) {
                    int bucket = b;
                    quietly("open(" + leg + ", " + bucket + ")", () -> lattice.open(leg, bucket), () -> model.open(leg, bucket));
                }
            }
        }
    }

    private void look() {
        for (int i = 0; i < bookings; i++) {
            seen[8] += model.booking(i) / 1000 == 2 ? 1 : 0;
            seen[9] += model.booking(i) / 1000 == 3 ? 1 : 0;
            for (int k = 0; k < model.booking(i) / 10 % 100; k++) {
                int state = model.coupon(i, k) % 10;
                seen[3] += state == 2 ? 1 : 0;
                seen[4] += state == 3 ? 1 : 0;
                seen[5] += state == 4 ? 1 : 0;
                seen[6] += state == 5 && model.booking(i) / 1000 == 1 ? 1 : 0;
                seen[19] += k > 1 && model.coupon(i, k - 2) % 10 == 4 && model.coupon(i, k - 1) % 10 != 4
                    && model.share(i, k) == 0 ? 1 : 0;
            }
        }
        seen[7] += model.denied();
        for (int i = 0; i < 20; i++) {
            int wish = i;
            String told = Check.told(() -> model.wished(wish));
            seen[10] += told.startsWith("throws") || told.startsWith("-") ? 0 : 1;
            seen[11] += told.startsWith("-2") ? 1 : 0;
        }
        for (int i = 0; i < 9; i++) {
            seen[18] += i / 3 != i % 3 ? model.owed(i / 3, i % 3) : 0;
        }
        for (int i = 0; i < 5; i++) {
            seen[20] += model.points(i) >= 500 ? 1 : 0;
        }
    }

    private void play() {
        network();
        for (int i = 0; calls.size() < CALLS && i < CALLS && !check.isAnyWrong(); i++) {
            step();
            compareBookings();
            if (i % 8 == 0) {
                compareLegs();
            }
        }
        compareLegs();
        look();
    }

    public static void main(String[] args) {
        Check check = new Check("ModelTest");
        int[] seen = new int[SIGHTS.length];
        int runs = args.length > 0 ? Integer.parseInt(args[0]) : RUNS;
        for (int run = 0; run < runs && !check.isAnyWrong(); run++) {
            new ModelTest(check, run, seen).play();
        }
        StringBuilder sights = new StringBuilder();
        for (int i = 0; i < 21; i++) {
            sights.append(i == 0 ? "" : ", ").append(SIGHTS[i]).append(' ').append(seen[i]);
            check.isTrue("the runs have come by: " + SIGHTS[i], seen[i] > 0);
        }
        System.out.println("ModelTest has seen: " + sights);
        check.close();
    }
}
