import java.util.ArrayList;
import java.util.Comparator;
import java.util.List;

/**
 * The document once more, written apart from FareLattice and without any care for speed: it lists all
 * ways and sorts them, and keeps no more than the document tells. ModelTest holds the two together.
 */
final class Model {
    private static final int HELD = 0, TICKETED = 1, LAPSED = 2, CANCELLED = 3;
    private static final int OPEN = 0, CHECKED = 1, FLOWN = 2, MISSED = 3, MOVED = 4, VOID = 5;

    private static final class F {
        int carrier, from, to, hour, length, seats;
        int[] limits;
        boolean isSet;
        boolean[] goes = new boolean[61];
        boolean[] cancelled = new boolean[61];
        int[] delay = new int[61];
        int link = -1;
        boolean next;
    }

    private static final class T {
        int carrier, from, to, bucket, amount;
        int first = -1, last = 61, advance = 0, stay = 0, percent = 50;
        boolean isReturn, isOwn;
    }

    private static final class C {
        int leg, bucket, stretch, share, tax, state;
    }

    private static final class B {
        int persons, member, state, limit, seller;
        boolean volunteer;
        List<int[]> stretches = new ArrayList<>();
        List<C> coupons = new ArrayList<>();
    }

    private static final class W {
        int persons, member, booking = -1;
        List<Integer> legs = new ArrayList<>();
    }

    /** A way to price a journey: pairs of (legs, fare) and the sum. */
    private static final class Way {
        List<int[]> parts = new ArrayList<>();
        int sum;
    }

    private final int[] zone = new int[6];
    private final int[] tax = new int[6];
    private final List<F> flights = new ArrayList<>();
    private final List<T> fares = new ArrayList<>();
    private final List<B> bookings = new ArrayList<>();
    private final List<W> wishes = new ArrayList<>();
    private List<Integer> draft = new ArrayList<>();
    private final int[] points = new int[5];
    private final int[][] owed = new int[3][3];
    private int time = 0;
    private int denied = 0;

    private static void index(boolean good) {
        if (!good) {
            throw new IndexOutOfBoundsException();
        }
    }

    private static void argument(boolean good) {
        if (!good) {
            throw new IllegalArgumentException();
        }
    }

    private static void state(boolean good) {
        if (!good) {
            throw new IllegalStateException();
        }
    }

    private static boolean in(int x, int a, int b) {
        return a <= x && x <= b;
    }

    // ---- legs

    private boolean exists(int leg) {
        return leg >= 0 && leg / 100 < flights.size() && leg % 100 <= 60 && flights.get(leg / 100).goes[leg % 100];
    }

    private F of(int leg) {
        return flights.get(leg / 100);
    }

    private int dep(int leg) {
        F f = of(leg);
        return 24 * (leg % 100) + f.hour - zone[f.from] + f.delay[leg % 100];
    }

    private int arr(int leg) {
        return dep(leg) + of(leg).length;
    }

    private boolean isCancelled(int leg) {
        return of(leg).cancelled[leg % 100];
    }

    private boolean isDeparted(int leg) {
        return !isCancelled(leg) && time >= dep(leg);
    }

    private int sold(int leg, int from) {
        int sum = 0;
        for (B b : bookings) {
            if (b.state <= TICKETED) {
                for (C c : b.coupons) {
                    if (c.leg == leg && c.bucket >= from && (c.state == OPEN || c.state == CHECKED || c.state == FLOWN)) {
                        sum += b.persons;
                    }
                }
            }
        }
        return sum;
    }

    private int seatsOpen(int leg, int bucket) {
        if (isCancelled(leg) || isDeparted(leg)) {
            return 0;
        }
        int least = 1000;
        for (int k = 0; k <= bucket; k++) {
            least = Math.min(least, of(leg).limits[k] - sold(leg, k));
        }
        return Math.max(least, 0);
    }

    private int tier(int member) {
        return member < 0 ? 0 : Math.min(3, points[member] / 500);
    }

    // ---- prices

    private boolean stretchFits(T t, List<Integer> legs, int persons) {
        int first = legs.get(0);
        int last = legs.get(legs.size() - 1);
        if (t.from != of(first).from || t.to != of(last).to) {
            return false;
        }
        int day = Math.floorDiv(dep(first) + zone[of(first).from], 24);
        if (day < t.first || day > t.last || dep(first) < time + 24 * t.advance) {
            return false;
        }
        for (int i = 0; i < legs.size(); i++) {
            if (t.carrier != -1 && t.carrier != of(legs.get(i)).carrier) {
                return false;
            }
            if (i > 0 && dep(legs.get(i)) - arr(legs.get(i - 1)) >= 24) {
                return false;
            }
            if (seatsOpen(legs.get(i), t.bucket) < persons) {
                return false;
            }
        }
        return true;
    }

    private boolean combines(Way way, List<Integer> legs) {
        boolean hasHalf = false;
        for (int[] part : way.parts) {
            T t = fares.get(part[1]);
            hasHalf = hasHalf || t.isReturn;
            for (int[] other : way.parts) {
                if (t.isOwn && fares.get(other[1]).carrier != t.carrier) {
                    return false;
                }
            }
        }
        if (!hasHalf) {
            return true;
        }
        if (way.parts.size() != 2) {
            return false;
        }
        T one = fares.get(way.parts.get(0)[1]);
        T two = fares.get(way.parts.get(1)[1]);
        int turn = way.parts.get(0)[0];
        return one.isReturn && two.isReturn
            && of(legs.get(0)).from == of(legs.get(legs.size() - 1)).to
            && dep(legs.get(turn)) - arr(legs.get(turn - 1)) >= 24 * Math.max(one.stay, two.stay);
    }

    private void ways(List<Integer> legs, int persons, int done, Way soFar, List<Way> all) {
        if (done == legs.size()) {
            if (combines(soFar, legs)) {
                Way copy = new Way();
                copy.parts.addAll(soFar.parts);
                copy.sum = soFar.sum;
                all.add(copy);
            }
            return;
        }
        for (int end = legs.size(); end > done; end--) {
            for (int f = fares.size() - 1; f >= 0; f--) {
                if (stretchFits(fares.get(f), legs.subList(done, end), persons)) {
                    soFar.parts.add(new int[] {end - done, f});
                    soFar.sum += fares.get(f).amount;
                    ways(legs, persons, end, soFar, all);
                    soFar.sum -= fares.get(f).amount;
                    soFar.parts.remove(soFar.parts.size() - 1);
                }
            }
        }
    }

    private Way cheapest(List<Integer> legs, int persons) {
        List<Way> all = new ArrayList<>();
        if (!legs.isEmpty()) {
            ways(legs, persons, 0, new Way(), all);
        }
        all.sort((x, y) -> {
            if (x.sum != y.sum) {
                return x.sum - y.sum;
            }
            for (int i = 0; i < Math.min(x.parts.size(), y.parts.size()); i++) {
                for (int k = 0; k < 2; k++) {
                    if (x.parts.get(i)[k] != y.parts.get(i)[k]) {
                        return x.parts.get(i)[k] - y.parts.get(i)[k];
                    }
                }
            }
            return 0;
        });
        return all.isEmpty() ? null : all.get(0);
    }

    private int taxOf(List<Integer> legs, int i) {
        return i == 0 || dep(legs.get(i)) >= arr(legs.get(i - 1)) + 6 ? tax[of(legs.get(i)).from] : 0;
    }

    private int book(List<Integer> legs, Way way, int persons, int member, int hours) {
        B b = new B();
        b.persons = persons;
        b.member = member;
        b.limit = time + hours;
        b.seller = of(legs.get(0)).carrier;
        int i = 0;
        for (int s = 0; s < way.parts.size(); s++) {
            int count = way.parts.get(s)[0];
            T t = fares.get(way.parts.get(s)[1]);
            b.stretches.add(new int[] {t.amount, t.percent});
            int total = 0;
            for (int k = i; k < i + count; k++) {
                total += of(legs.get(k)).length;
            }
            int given = 0;
            for (int k = 0; k < count; k++, i++) {
                C c = new C();
                c.leg = legs.get(i);
                c.bucket = t.bucket;
                c.stretch = s;
                c.share = k == count - 1 ? t.amount - given : t.amount * of(c.leg).length / total;
                given += c.share;
                c.tax = taxOf(legs, i);
                b.coupons.add(c);
            }
        }
        bookings.add(b);
        return bookings.size() - 1;
    }

    // ---- the face

    int setZone(int airport, int z) {
        index(in(airport, 0, 5));
        argument(in(z, -12, 14));
        state(flights.isEmpty());
        int old = zone[airport];
        zone[airport] = z;
        return old;
    }

    int setTax(int airport, int t) {
        index(in(airport, 0, 5));
        argument(in(t, 0, 500));
        int old = tax[airport];
        tax[airport] = t;
        return old;
    }

    int flight(int carrier, int from, int to, int hour, int length, int seats) {
        index(in(carrier, 0, 2) && in(from, 0, 5) && in(to, 0, 5));
        argument(from != to && in(hour, 0, 23) && in(length, 1, 20) && in(seats, 1, 60));
        state(flights.size() < 12);
        F f = new F();
        f.carrier = carrier;
        f.from = from;
        f.to = to;
        f.hour = hour;
        f.length = length;
        f.seats = seats;
        f.limits = new int[] {seats, seats, seats, seats};
        flights.add(f);
        return flights.size() - 1;
    }

    int days(int flight, int first, int last, int set) {
        index(in(flight, 0, flights.size() - 1));
        argument(in(first, 0, 60) && in(last, first, 60) && in(set, 1, 127));
        F f = flights.get(flight);
        state(!f.isSet);
        f.isSet = true;
        int n = 0;
        for (int d = 0; d <= 60; d++) {
            f.goes[d] = d >= first && d <= last && (set & 1 << d % 7) != 0;
            n += f.goes[d] ? 1 : 0;
        }
        return n;
    }

    int limit(int flight, int bucket, int limit) {
        index(in(flight, 0, flights.size() - 1) && in(bucket, 0, 3));
        F f = flights.get(flight);
        argument(in(limit, 0, f.seats + 10));
        int old = f.limits[bucket];
        f.limits[bucket] = limit;
        return old;
    }

    int link(int flight, int other, boolean next) {
        index(in(flight, 0, flights.size() - 1) && in(other, -1, flights.size() - 1));
        F f = flights.get(flight);
        argument(other == -1 || flights.get(other).from == f.to);
        int old = f.link;
        f.link = other;
        f.next = next;
        return old;
    }

    int fare(int carrier, int from, int to, int bucket, int amount) {
        index(in(carrier, -1, 2) && in(from, 0, 5) && in(to, 0, 5) && in(bucket, 0, 3));
        argument(from != to && in(amount, 1, 5000));
        state(fares.size() < 16);
        T t = new T();
        t.carrier = carrier;
        t.from = from;
        t.to = to;
        t.bucket = bucket;
        t.amount = amount;
        fares.add(t);
        return fares.size() - 1;
    }

    void rules(int fare, int first, int last, int advance, boolean isReturn, int stay, boolean isOwn) {
        index(in(fare, 0, fares.size() - 1));
        argument(in(first, -1, 61) && in(last, first, 61) && in(advance, 0, 30) && in(stay, 0, 30));
        T t = fares.get(fare);
        t.first = first;
        t.last = last;
        t.advance = advance;
        t.isReturn = isReturn;
        t.stay = stay;
        t.isOwn = isOwn;
    }

    int back(int fare, int percent) {
        index(in(fare, 0, fares.size() - 1));
        argument(in(percent, 0, 100));
        int old = fares.get(fare).percent;
        fares.get(fare).percent = percent;
        return old;
    }

    int departure(int leg) {
        index(exists(leg));
        return dep(leg);
    }

    int standing(int leg) {
        index(exists(leg));
        return 10 * of(leg).delay[leg % 100] + (isCancelled(leg) ? 2 : isDeparted(leg) ? 1 : 0);
    }

    int open(int leg, int bucket) {
        index(exists(leg) && in(bucket, 0, 3));
        return seatsOpen(leg, bucket);
    }

    float load(int leg) {
        index(exists(leg));
        return (float) sold(leg, 0) / (float) of(leg).seats;
    }

    private void strike(int leg) {
        of(leg).cancelled[leg % 100] = true;
        for (B b : bookings) {
            if (b.state == HELD && b.coupons.stream().anyMatch(c -> c.leg == leg)) {
                endBooking(b, CANCELLED);
            }
        }
    }

    private void endBooking(B b, int s) {
        b.state = s;
        for (C c : b.coupons) {
            if (c.state == OPEN || c.state == CHECKED) {
                c.state = VOID;
            }
        }
    }

    int cancelLeg(int leg) {
        index(exists(leg));
        state(!isCancelled(leg) && !isDeparted(leg));
        int n = 0;
        for (B b : bookings) {
            for (C c : b.coupons) {
                if (b.state == TICKETED && c.leg == leg && (c.state == OPEN || c.state == CHECKED)) {
                    n += b.persons;
                }
            }
        }
        strike(leg);
        return n;
    }

    int delay(int leg, int hours) {
        index(exists(leg));
        argument(in(hours, 1, 8));
        state(!isCancelled(leg) && !isDeparted(leg));
        List<Integer> hit = new ArrayList<>();
        int at = leg;
        int more = hours;
        int links = 0;
        while (true) {
            if (!hit.contains(at)) {
                hit.add(at);
            }
            if (of(at).delay[at % 100] + more > 8) {
                strike(at);
                break;
            }
            of(at).delay[at % 100] += more;
            if (links == 6 || of(at).link == -1) {
                break;
            }
            int next = 100 * of(at).link + at % 100 + (of(at).next ? 1 : 0);
            if (!exists(next) || isCancelled(next) || isDeparted(next)) {
                break;
            }
            more = arr(at) + 1 - dep(next);
            if (more <= 0) {
                break;
            }
            at = next;
            links++;
        }
        return hit.size();
    }

    int repair() {
        int answer = 0;
        for (int t = 3; t >= 0; t--) {
            for (B b : bookings) {
                if (b.state != TICKETED || tier(b.member) != t) {
                    continue;
                }
                for (int i = 0; i < b.coupons.size(); i++) {
                    C c = b.coupons.get(i);
                    if (c.state != OPEN && c.state != CHECKED) {
                        continue;
                    }
                    C ahead = near(b, i, -1);
                    if (isCancelled(c.leg) || ahead != null && dep(c.leg) - arr(ahead.leg) < 1) {
                        answer += move(b, i) ? 100 : 1;
                    }
                }
            }
        }
        return answer;
    }

    private C near(B b, int i, int step) {
        for (int k = i + step; k >= 0 && k < b.coupons.size(); k += step) {
            if (b.coupons.get(k).state != MOVED && b.coupons.get(k).state != VOID) {
                return b.coupons.get(k);
            }
        }
        return null;
    }

    private boolean usable(B b, int leg) {
        if (!exists(leg) || isCancelled(leg) || isDeparted(leg) || seatsOpen(leg, 0) < b.persons) {
            return false;
        }
        for (C c : b.coupons) {
            if (c.leg == leg && c.state != MOVED && c.state != VOID) {
                return false;
            }
        }
        return true;
    }

    private boolean move(B b, int i) {
        C c = b.coupons.get(i);
        C ahead = near(b, i, -1);
        C behind = near(b, i, 1);
        List<Integer> usable = new ArrayList<>();
        for (int leg = 0; leg < 1200; leg++) {
            if (usable(b, leg) && leg != c.leg) {
                usable.add(leg);
            }
        }
        List<int[]> ways = new ArrayList<>();
        for (int one : usable) {
            if (of(one).from != of(c.leg).from || dep(one) < time + 1 || dep(one) > dep(c.leg) + 48
                    || ahead != null && dep(one) < arr(ahead.leg) + 1) {
                continue;
            }
            ways.add(new int[] {arr(one), 1, one, -1});
            for (int two : usable) {
                if (of(two).from == of(one).to && dep(two) >= arr(one) + 1) {
                    ways.add(new int[] {arr(two), 2, one, two});
                }
            }
        }
        ways.removeIf(w -> of(w[1] == 1 ? w[2] : w[3]).to != of(c.leg).to
            || behind != null && w[0] > dep(behind.leg) - 1);
        ways.sort(Comparator.<int[]>comparingInt(w -> w[0]).thenComparingInt(w -> w[1])
            .thenComparingInt(w -> w[2]).thenComparingInt(w -> w[3]));
        if (ways.isEmpty() || b.coupons.size() + ways.get(0)[1] > 10) {
            c.state = VOID;
            return false;
        }
        int[] way = ways.get(0);
        for (int k = way[1]; k >= 1; k--) {
            C put = new C();
            put.leg = way[1 + k];
            put.stretch = c.stretch;
            put.share = k == 1 ? c.share : 0;
            put.tax = k == 1 ? c.tax : 0;
            b.coupons.add(i + 1, put);
        }
        c.state = MOVED;
        c.share = 0;
        c.tax = 0;
        return true;
    }

    int leg(int leg) {
        index(exists(leg));
        state(draft.size() < 4 && !draft.contains(leg));
        if (!draft.isEmpty()) {
            int last = draft.get(draft.size() - 1);
            state(of(leg).from == of(last).to && dep(leg) - arr(last) >= 1);
        }
        draft.add(leg);
        return draft.size();
    }

    int dropLegs() {
        int n = draft.size();
        draft = new ArrayList<>();
        return n;
    }

    int price(int persons) {
        argument(in(persons, 1, 9));
        Way way = cheapest(draft, persons);
        return way == null ? -1 : way.sum;
    }

    int stretch(int persons, int stretch) {
        argument(in(persons, 1, 9));
        Way way = cheapest(draft, persons);
        index(way != null && in(stretch, 0, way.parts.size() - 1));
        return 10 * way.parts.get(stretch)[1] + way.parts.get(stretch)[0];
    }

    int taxes() {
        int sum = 0;
        for (int i = 0; i < draft.size(); i++) {
            sum += taxOf(draft, i);
        }
        return sum;
    }

    int hold(int persons, int member, int hours) {
        index(in(member, -1, 4));
        argument(in(persons, 1, 9) && in(hours, 1, 72));
        Way way = cheapest(draft, persons);
        state(way != null && bookings.size() < 40);
        int n = book(draft, way, persons, member, hours);
        draft = new ArrayList<>();
        return n;
    }

    int wish(int persons, int member) {
        index(in(member, -1, 4));
        argument(in(persons, 1, 9));
        state(!draft.isEmpty() && wishes.size() < 20);
        W w = new W();
        w.persons = persons;
        w.member = member;
        w.legs = draft;
        draft = new ArrayList<>();
        wishes.add(w);
        return wishes.size() - 1;
    }

    int clear() {
        List<W> order = new ArrayList<>(wishes);
        order.sort(Comparator.comparingInt(w -> -tier(w.member)));
        int n = 0;
        for (W w : order) {
            if (w.booking != -1 || isDeparted(w.legs.get(0)) || bookings.size() == 40) {
                continue;
            }
            Way way = cheapest(w.legs, w.persons);
            if (way != null) {
                w.booking = book(w.legs, way, w.persons, w.member, 24);
                n++;
            }
        }
        return n;
    }

    int wished(int wish) {
        index(in(wish, 0, wishes.size() - 1));
        W w = wishes.get(wish);
        if (w.booking >= 0) {
            return w.booking;
        }
        return isDeparted(w.legs.get(0)) ? -2 : -1;
    }

    private B bookingOf(int booking) {
        index(in(booking, 0, bookings.size() - 1));
        return bookings.get(booking);
    }

    private C couponOf(int booking, int coupon) {
        B b = bookingOf(booking);
        index(in(coupon, 0, b.coupons.size() - 1));
        return b.coupons.get(coupon);
    }

    int ticket(int booking) {
        B b = bookingOf(booking);
        state(b.state == HELD);
        b.state = TICKETED;
        int one = 0;
        for (int[] s : b.stretches) {
            one += s[0];
        }
        for (C c : b.coupons) {
            one += c.tax;
        }
        return one * b.persons;
    }

    int part(int booking, int persons) {
        B b = bookingOf(booking);
        argument(persons >= 1 && persons < b.persons);
        state(b.state != LAPSED && b.state != CANCELLED && bookings.size() < 40);
        B n = new B();
        n.persons = persons;
        n.member = b.member;
        n.state = b.state;
        n.limit = b.limit;
        n.seller = b.seller;
        n.volunteer = b.volunteer;
        n.stretches.addAll(b.stretches);
        for (C c : b.coupons) {
            C d = new C();
            d.leg = c.leg;
            d.bucket = c.bucket;
            d.stretch = c.stretch;
            d.share = c.share;
            d.tax = c.tax;
            d.state = c.state;
            n.coupons.add(d);
        }
        b.persons -= persons;
        bookings.add(n);
        return bookings.size() - 1;
    }

    int cancel(int booking) {
        B b = bookingOf(booking);
        state(b.state == HELD || b.state == TICKETED);
        int one = 0;
        if (b.state == TICKETED) {
            for (int s = 0; s < b.stretches.size(); s++) {
                int stretch = s;
                if (b.coupons.stream().noneMatch(c -> c.stretch == stretch && (c.state == FLOWN || c.state == MISSED))) {
                    one += b.stretches.get(s)[0] * b.stretches.get(s)[1] / 100;
                }
            }
            for (C c : b.coupons) {
                if (c.state == OPEN || c.state == CHECKED || c.state == VOID) {
                    one += c.tax;
                }
            }
        }
        endBooking(b, CANCELLED);
        return one * b.persons;
    }

    int booking(int booking) {
        B b = bookingOf(booking);
        return 1000 * b.state + 10 * b.coupons.size() + b.persons;
    }

    int coupon(int booking, int coupon) {
        C c = couponOf(booking, coupon);
        return 100 * c.leg + 10 * c.bucket + c.state;
    }

    int share(int booking, int coupon) {
        C c = couponOf(booking, coupon);
        return c.state == MOVED ? 0 : c.share;
    }

    private int checked(int leg) {
        int n = 0;
        for (B b : bookings) {
            for (C c : b.coupons) {
                if (c.leg == leg && c.state == CHECKED) {
                    n += b.persons;
                }
            }
        }
        return n;
    }

    int check(int booking, int coupon) {
        C c = couponOf(booking, coupon);
        state(c.state == OPEN && bookings.get(booking).state == TICKETED && !isCancelled(c.leg)
            && time >= dep(c.leg) - 24 && time < dep(c.leg));
        c.state = CHECKED;
        return checked(c.leg);
    }

    boolean volunteer(int booking) {
        B b = bookingOf(booking);
        b.volunteer = !b.volunteer;
        return b.volunteer;
    }

    private void fly(int leg) {
        List<B> order = new ArrayList<>();
        for (B b : bookings) {
            if (b.coupons.stream().anyMatch(c -> c.leg == leg && c.state == CHECKED)) {
                order.add(b);
            }
        }
        order.sort(Comparator.<B>comparingInt(b -> b.volunteer ? 0 : 1).thenComparingInt(b -> tier(b.member))
            .thenComparingInt(b -> -bookings.indexOf(b)));
        List<B> out = new ArrayList<>();
        int left = checked(leg);
        for (B b : order) {
            if (left > of(leg).seats) {
                out.add(b);
                left -= b.persons;
                denied += b.persons;
            }
        }
        for (B b : bookings) {
            for (C c : b.coupons) {
                if (c.leg != leg || out.contains(b)) {
                    continue;
                }
                if (c.state == CHECKED) {
                    c.state = FLOWN;
                    if (b.member >= 0) {
                        points[b.member] += b.persons * 10 * of(leg).length;
                    }
                    owed[b.seller][of(leg).carrier] += b.persons * c.share;
                } else if (c.state == OPEN && b.state == TICKETED) {
                    c.state = MISSED;
                }
            }
        }
        for (B b : out) {
            for (int i = 0; i < b.coupons.size(); i++) {
                if (b.coupons.get(i).leg == leg && b.coupons.get(i).state == CHECKED) {
                    move(b, i);
                    break;
                }
            }
        }
    }

    int pass(int hours) {
        argument(in(hours, 1, 100));
        for (int h = 0; h < hours; h++) {
            time++;
            for (B b : bookings) {
                if (b.state == HELD && b.limit == time) {
                    endBooking(b, LAPSED);
                }
            }
            for (int leg = 0; leg < 1200; leg++) {
                if (exists(leg) && !isCancelled(leg) && dep(leg) == time) {
                    fly(leg);
                }
            }
        }
        return time;
    }

    int denied() {
        return denied;
    }

    int points(int member) {
        index(in(member, 0, 4));
        return points[member];
    }

    int owed(int seller, int carrier) {
        index(in(seller, 0, 2) && in(carrier, 0, 2));
        return owed[seller][carrier];
    }
}
