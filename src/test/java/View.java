import java.util.ArrayList;
import java.util.List;

/** All that can be asked of an object, as a text, so that two objects can be compared. */
final class View {
    private static final int FLIGHTS = 12;
    private static final int DAYS = 61;
    private static final int FARES = 16;
    private static final int BOOKINGS = 40;
    private static final int WISHES = 20;

    private final FareLattice x;
    private final List<Integer> legs;
    private final StringBuilder text = new StringBuilder();

    private View(FareLattice x, List<Integer> legs) {
        this.x = x;
        this.legs = legs;
    }

    /** What can be asked without changing anything, of these legs and all else. */
    static String quiet(FareLattice x, List<Integer> legs) {
        View view = new View(x, legs);
        view.look();
        return view.text.toString();
    }

    /** Also what can be asked only by calls that change something: limits, links, hours to come and the like. */
    static String whole(FareLattice x) {
        View view = new View(x, legsOf(x));
        view.look();
        view.hours(1, 4);
        view.badDay();
        view.hours(23, 5);
        view.numbers();
        view.hours(100, 3);
        return view.text.toString();
    }

    private void tell(Check.Call call) {
        text.append(Check.told(call)).append(' ');
    }

    static List<Integer> legsOf(FareLattice x) {
        List<Integer> legs = new ArrayList<>();
        for (int flight = 0; flight < FLIGHTS; flight++) {
            for (int day = 0; day < DAYS; day++) {
                int leg = 100 * flight + day;
                if (!Check.told(() -> x.departure(leg)).startsWith("throws")) {
                    legs.add(leg);
                }
            }
        }
        return legs;
    }

    private void look() {
        for (int leg : legs) {
            text.append("\nleg ").append(leg).append(": ");
            tell(() -> x.departure(leg));
            tell(() -> x.standing(leg));
            tell(() -> x.load(leg));
            for (int b = 0; b < 4; b++) {
                int bucket = b;
                tell(() -> x.open(leg, bucket));
            }
        }
        lookAtDraft();
        lookAtBookings();
        text.append("\ndenied, points, owed: ");
        tell(() -> x.denied());
        for (int i = 0; i < 5; i++) {
            int member = i;
            tell(() -> x.points(member));
        }
        for (int i = 0; i < 9; i++) {
            int pair = i;
            tell(() -> x.owed(pair / 3, pair % 3));
        }
    }

    private void lookAtDraft() {
        text.append("\ndraft: ");
        tell(() -> x.taxes());
        for (int i = 1; i <= 9; i++) {
            int persons = i;
            tell(() -> x.price(persons));
            tell(() -> x.priceAnew(persons));
            String told = "";
            for (int s = 0; s < 4 && !told.startsWith("throws"); s++) {
                int stretch = s;
                told = Check.told(() -> x.stretch(persons, stretch));
                text.append(told).append(' ');
            }
        }
    }

    private void lookAtBookings() {
        for (int i = 0; i < BOOKINGS && has(i); i++) {
            int booking = i;
            text.append("\nbooking ").append(booking).append(": ");
            tell(() -> x.booking(booking));
            for (int k = 0; k < x.booking(booking) / 10 % 100; k++) {
                int coupon = k;
                tell(() -> x.coupon(booking, coupon));
                tell(() -> x.share(booking, coupon));
            }
        }
        text.append("\nwishes: ");
        String told = "";
        for (int i = 0; i < WISHES && !told.startsWith("throws"); i++) {
            int wish = i;
            told = Check.told(() -> x.wished(wish));
            text.append(told).append(' ');
        }
    }

    private boolean has(int booking) {
        return !Check.told(() -> x.booking(booking)).startsWith("throws");
    }

    private void hours(int hours, int times) {
        for (int i = 0; i < times; i++) {
            text.append("\nthe time is ");
            tell(() -> x.pass(hours));
            look();
        }
    }

    /** Delays show links; clearing and repairing show who waits, and in which order. */
    private void badDay() {
        text.append("\nbad day: ");
        for (int i = 0; i < BOOKINGS && has(i); i++) {
            int booking = i;
            tell(() -> x.volunteer(booking) ? 1 : 0);
            tell(() -> x.volunteer(booking) ? 1 : 0);
        }
        tell(() -> x.clear());
        for (int leg : legs) {
            tell(() -> x.delay(leg, 3));
        }
        tell(() -> x.repair());
        look();
    }

    /** What calls tell of before, and the numbers that come next. */
    private void numbers() {
        text.append("\nbefore: ");
        tell(() -> x.dropLegs());
        for (int i = 0; i < 6; i++) {
            int airport = i;
            tell(() -> x.setZone(airport, 0));
            tell(() -> x.setTax(airport, 0));
        }
        for (int i = 0; i < FLIGHTS; i++) {
            int flight = i;
            tell(() -> x.link(flight, -1, false));
            for (int b = 0; b < 4; b++) {
                int bucket = b;
                tell(() -> x.limit(flight, bucket, 0));
            }
            tell(() -> x.days(flight, 0, 60, 127));
        }
        for (int i = 0; i < FARES; i++) {
            int fare = i;
            tell(() -> x.back(fare, 0));
        }
        tell(() -> x.flight(0, 0, 1, 0, 1, 1));
        tell(() -> x.fare(0, 0, 1, 0, 1));
        look();
    }
}
