/** Promises 18 to 23: the draft, its price by both ways, its stretches and its taxes. */
public final class DraftTest {
    private static final Check CHECK = new Check("DraftTest");

    /** Both ways to build a price have to tell the same. */
    private static void price(FareLattice x, String what, int want, int persons) {
        CHECK.same("price, " + what, want, x.price(persons));
        CHECK.same("priceAnew, " + what, want, x.priceAnew(persons));
    }

    private static void legs() {
        FareLattice x = new FareLattice();
        Networks.daily(x, 0, 1, 8, 2, 5);
        Networks.daily(x, 1, 0, 11, 2, 5);
        Networks.daily(x, 1, 0, 10, 2, 5);
        CHECK.same("the first leg", 1, x.leg(1));
        CHECK.state("the leg already", () -> x.leg(1));
        CHECK.state("it departs where the other one does", () -> x.leg(2));
        CHECK.state("less than 1 hour later", () -> x.leg(201));
        CHECK.state("the day before", () -> x.leg(100));
        CHECK.index("no such leg", () -> x.leg(199));
        CHECK.same("1 hour later", 2, x.leg(101));
        CHECK.state("the leg already, some legs ahead", () -> x.leg(1));
        CHECK.same("the third", 3, x.leg(2));
        CHECK.same("the fourth", 4, x.leg(102));
        CHECK.state("it has 4", () -> x.leg(3));
        CHECK.index("no such leg goes ahead of that", () -> x.leg(-1));
        CHECK.same("it had 4", 4, x.dropLegs());
        CHECK.same("it is empty", 0, x.dropLegs());
        x.cancelLeg(5);
        CHECK.same("a cancelled leg can be drafted", 1, x.leg(5));
        x.fare(-1, 0, 1, 0, 10);
        price(x, "of a cancelled leg", -1, 1);
        x.dropLegs();
        x.pass(9);
        CHECK.same("a departed leg can be drafted", 1, x.leg(0));
        price(x, "of a departed leg", -1, 1);
        x.dropLegs();
        x.leg(6);
        x.delay(6, 4);
        CHECK.state("the delay counts", () -> x.leg(106));
        CHECK.same("the next day is late enough", 2, x.leg(107));
    }

    private static void legThatWouldFitOnceMore() {
        FareLattice x = new FareLattice();
        Networks.daily(x, 0, 1, 8, 1, 5);
        Networks.daily(x, 1, 0, 10, 1, 5);
        Networks.draft(x, 1, 101);
        x.delay(1, 8);
        CHECK.state("the leg already, though it departs behind the last one now", () -> x.leg(1));
        CHECK.same("two legs", 2, x.dropLegs());
    }

    private static void priceAnewByItself() {
        FareLattice x = new FareLattice();
        Networks.daily(x, 0, 1, 8, 2, 9);
        x.fare(0, 0, 1, 0, 40);
        x.leg(1);
        CHECK.same("with no price() ahead of it", 40, x.priceAnew(9));
        x.limit(0, 0, 3);
        CHECK.same("with other seats", -1, x.priceAnew(9));
        CHECK.same("for fewer", 40, x.priceAnew(3));
        x.fare(0, 0, 1, 0, 30);
        CHECK.same("with another fare", 30, x.priceAnew(3));
        CHECK.same("and price() then", 30, x.price(3));
    }

    private static void connectionIsAskedWhenDrafted() {
        FareLattice x = new FareLattice();
        Networks.daily(x, 0, 1, 8, 2, 5);
        Networks.daily(x, 1, 2, 11, 2, 5);
        x.fare(0, 0, 2, 0, 40);
        Networks.draft(x, 1, 101);
        x.delay(1, 8);
        price(x, "the second leg departs ahead of the arrival now", 40, 1);
        CHECK.same("it can be held", 0, x.hold(1, -1, 5));
    }

    private static void personsOfPrices() {
        FareLattice x = new FareLattice();
        Networks.daily(x, 0, 1, 8, 2, 9);
        x.fare(0, 0, 1, 0, 40);
        price(x, "of no leg", -1, 1);
        Networks.draft(x, 1);
        price(x, "of 9", 40, 9);
        x.limit(0, 0, 8);
        price(x, "8 are open", -1, 9);
        price(x, "for 8", 40, 8);
        int[] wrong = {0, -1, 10};
        for (int persons : wrong) {
            CHECK.argument("price of " + persons, () -> x.price(persons));
            CHECK.argument("priceAnew of " + persons, () -> x.priceAnew(persons));
            CHECK.argument("stretch of " + persons + ", that goes first here", () -> x.stretch(persons, 9));
        }
        CHECK.same("the draft is as it was", 1, x.dropLegs());
    }

    private static void stretches() {
        FareLattice x = new FareLattice();
        Networks.daily(x, 0, 1, 8, 2, 9);
        Networks.daily(x, 1, 2, 12, 2, 9);
        Networks.daily(x, 2, 3, 16, 2, 9);
        x.fare(0, 0, 1, 0, 40);
        x.fare(0, 1, 3, 0, 50);
        CHECK.index("no leg", () -> x.stretch(1, 0));
        Networks.draft(x, 1, 101);
        CHECK.index("no way", () -> x.stretch(1, 0));
        x.leg(201);
        CHECK.same("one leg", 1, x.stretch(1, 0));
        CHECK.same("two legs", 12, x.stretch(1, 1));
        CHECK.index("stretch -1", () -> x.stretch(1, -1));
        CHECK.index("stretch 2", () -> x.stretch(1, 2));
        price(x, "of both", 90, 1);
        x.fare(0, 0, 3, 0, 89);
        CHECK.same("one stretch", 23, x.stretch(1, 0));
        CHECK.index("there is just one", () -> x.stretch(1, 1));
        price(x, "of one", 89, 1);
    }

    private static void cheapestOfAllCuts() {
        FareLattice x = new FareLattice();
        for (int i = 0; i < 4; i++) {
            Networks.daily(x, i, i + 1, 4 * i + 1, 1, 9);
        }
        int[] legs = {1, 101, 201, 301};
        for (int i = 0; i < 4; i++) {
            x.fare(-1, i, i + 1, 0, 100);
        }
        for (int i = 0; i < 4; i++) {
            x.fare(-1, i, 5, 0, 1);
        }
        Networks.draft(x, legs);
        price(x, "four by themselves, with no fare to elsewhere", 400, 1);
        x.fare(-1, 1, 4, 0, 290);
        price(x, "one and three", 390, 1);
        x.fare(-1, 0, 3, 0, 280);
        price(x, "three and one", 380, 1);
        x.fare(-1, 1, 3, 0, 150);
        price(x, "one, two and one", 350, 1);
        CHECK.same("the second stretch", 102, x.stretch(1, 1));
        x.fare(-1, 0, 2, 0, 170);
        x.fare(-1, 2, 4, 0, 170);
        price(x, "two and two", 340, 1);
        x.fare(-1, 0, 4, 0, 339);
        price(x, "all four", 339, 1);
        CHECK.same("all four as one", 134, x.stretch(1, 0));
    }

    private static void ties() {
        FareLattice x = new FareLattice();
        for (int i = 0; i < 3; i++) {
            Networks.daily(x, i, i + 1, 4 * i + 1, 1, 9);
        }
        Networks.draft(x, 1, 101, 201);
        x.fare(-1, 0, 3, 0, 90);
        x.fare(-1, 0, 2, 0, 60);
        x.fare(-1, 2, 3, 0, 30);
        CHECK.same("fewer legs in the first stretch", 12, x.stretch(1, 0));
        x.fare(-1, 0, 1, 0, 40);
        x.fare(-1, 1, 3, 0, 50);
        CHECK.same("fewer again", 31, x.stretch(1, 0));
        CHECK.same("two legs then", 42, x.stretch(1, 1));
        x.fare(-1, 0, 1, 1, 40);
        CHECK.same("the lower number", 31, x.stretch(1, 0));
        x.fare(-1, 1, 2, 0, 20);
        CHECK.same("fewer legs in the second stretch", 61, x.stretch(1, 1));
        CHECK.same("and the third one", 21, x.stretch(1, 2));
        x.fare(-1, 2, 3, 1, 30);
        CHECK.same("the lower number in the third", 21, x.stretch(1, 2));
        x.fare(-1, 2, 3, 1, 29);
        CHECK.same("a cheaper one with a greater number", 81, x.stretch(1, 2));
        price(x, "the cheaper one", 89, 1);
    }

    private static void carriers() {
        FareLattice x = new FareLattice();
        Networks.daily(x, 0, 0, 1, 8, 2, 9);
        Networks.daily(x, 1, 1, 2, 12, 2, 9);
        x.fare(0, 0, 2, 0, 10);
        x.fare(1, 0, 2, 0, 11);
        x.fare(2, 0, 1, 0, 1);
        Networks.draft(x, 1, 101);
        price(x, "legs of two carriers", -1, 1);
        x.fare(-1, 0, 2, 0, 99);
        price(x, "a fare of any", 99, 1);
        x.fare(0, 0, 1, 0, 20);
        x.fare(1, 1, 2, 0, 30);
        price(x, "a fare for each", 50, 1);
    }

    private static void lessThanADayWithinAStretch() {
        FareLattice x = new FareLattice();
        Networks.daily(x, 0, 1, 8, 2, 9);
        Networks.daily(x, 1, 2, 9, 2, 9);
        Networks.daily(x, 1, 2, 10, 2, 9);
        Networks.daily(x, 2, 3, 9, 2, 9);
        x.fare(0, 0, 2, 0, 10);
        x.fare(0, 0, 3, 0, 15);
        Networks.draft(x, 1, 102);
        price(x, "23 hours", 10, 1);
        x.leg(303);
        price(x, "23 hours and 22 hours, 47 in all", 15, 1);
        Networks.draft(x, 1, 202);
        price(x, "24 hours", -1, 1);
        x.delay(1, 1);
        price(x, "23 hours by a delay", 10, 1);
        x.fare(0, 0, 1, 0, 50);
        x.fare(0, 1, 2, 0, 60);
        Networks.draft(x, 2, 203);
        price(x, "24 hours between stretches", 110, 1);
    }

    private static void buckets() {
        FareLattice x = new FareLattice();
        Networks.daily(x, 0, 1, 8, 2, 9);
        Networks.daily(x, 1, 2, 12, 2, 9);
        x.fare(0, 0, 2, 3, 10);
        x.fare(0, 0, 2, 2, 20);
        x.fare(0, 0, 2, 0, 40);
        Networks.draft(x, 1, 101);
        price(x, "all open", 10, 5);
        x.limit(1, 3, 4);
        price(x, "4 of the second leg open", 20, 5);
        price(x, "enough for 4", 10, 4);
        x.limit(0, 1, 4);
        price(x, "4 of the first leg open in the bucket 1", 40, 5);
        x.limit(0, 0, 4);
        price(x, "none then", -1, 5);
    }

    private static void daysOfFares() {
        FareLattice x = new FareLattice();
        x.setZone(0, -10);
        x.setZone(1, 10);
        Networks.daily(x, 0, 1, 20, 2, 9);
        Networks.daily(x, 1, 0, 4, 2, 9);
        x.fare(0, 0, 1, 0, 10);
        x.fare(0, 1, 0, 0, 20);
        x.rules(0, 2, 3, 0, false, 0, false);
        x.rules(1, 2, 3, 0, false, 0, false);
        int[] wants = {-1, 10, 10, -1};
        for (int day = 1; day <= 4; day++) {
            Networks.draft(x, day);
            price(x, "the local day " + day + " behind the hour's", wants[day - 1], 1);
            Networks.draft(x, 100 + day);
            price(x, "the local day " + day + " ahead of the hour's", wants[day - 1] < 0 ? -1 : 20, 1);
        }
        x.delay(1, 4);
        Networks.draft(x, 1);
        price(x, "a delay brings it to the day 2", 10, 1);
        x.delay(3, 4);
        Networks.draft(x, 3);
        price(x, "a delay brings it to the day 4", -1, 1);
        x.delay(2, 3);
        Networks.draft(x, 2);
        price(x, "a delay to 23 o'clock does not", 10, 1);
    }

    private static void dayOfTheFirstDepartureAlone() {
        FareLattice x = new FareLattice();
        Networks.daily(x, 0, 1, 22, 1, 9);
        Networks.daily(x, 1, 2, 3, 1, 9);
        x.fare(0, 0, 2, 0, 10);
        x.rules(0, 1, 1, 0, false, 0, false);
        Networks.draft(x, 1, 102);
        price(x, "the second leg is of the next day", 10, 1);
        x.fare(0, 0, 1, 0, 1);
        x.fare(0, 1, 2, 0, 2);
        x.rules(2, 2, 2, 0, false, 0, false);
        price(x, "a stretch has its own first departure", 3, 1);
        x.rules(2, 1, 1, 0, false, 0, false);
        price(x, "which is not the journey's", 10, 1);
    }

    private static void advances() {
        FareLattice x = new FareLattice();
        Networks.daily(x, 0, 1, 8, 2, 9);
        x.fare(0, 0, 1, 0, 10);
        x.rules(0, -1, 61, 2, false, 0, false);
        Networks.draft(x, 2);
        x.pass(8);
        price(x, "48 hours", 10, 1);
        x.pass(1);
        price(x, "47 hours", -1, 1);
        x.delay(2, 1);
        price(x, "48 hours by a delay", 10, 1);
        x.rules(0, -1, 61, 0, false, 0, false);
        x.pass(47);
        price(x, "without advance", 10, 1);
    }

    private static void returns() {
        FareLattice x = new FareLattice();
        Networks.daily(x, 0, 1, 8, 2, 9);
        Networks.daily(x, 1, 0, 10, 2, 9);
        Networks.daily(x, 1, 0, 9, 2, 9);
        Networks.daily(x, 1, 2, 10, 2, 9);
        x.fare(0, 0, 1, 0, 10);
        x.fare(0, 1, 0, 0, 20);
        x.fare(0, 1, 2, 0, 25);
        x.rules(0, -1, 61, 0, true, 1, false);
        Networks.draft(x, 1);
        price(x, "a half alone", -1, 1);
        Networks.draft(x, 1, 103);
        price(x, "a half with what is none", -1, 1);
        x.rules(1, -1, 61, 0, true, 2, false);
        price(x, "two halves, 48 hours", 30, 1);
        Networks.draft(x, 1, 203);
        price(x, "47 hours", -1, 1);
        x.rules(1, -1, 61, 0, true, 1, false);
        price(x, "the greater one of their stays", 30, 1);
        x.rules(0, -1, 61, 0, true, 2, false);
        price(x, "the greater one of their stays, the first", -1, 1);
        x.rules(2, -1, 61, 0, true, 0, false);
        x.rules(0, -1, 61, 0, true, 0, false);
        Networks.draft(x, 1, 303);
        price(x, "it does not end where it began", -1, 1);
        x.rules(1, -1, 61, 0, false, 30, false);
        x.rules(0, -1, 61, 0, false, 30, false);
        Networks.draft(x, 1, 203);
        price(x, "stays are of returns alone", 30, 1);
    }

    private static void returnsOfMoreLegs() {
        FareLattice x = new FareLattice();
        for (int i = 0; i < 4; i++) {
            Networks.daily(x, i, (i + 1) % 4, 8 + 4 * i, 2, 9);
        }
        x.fare(0, 0, 2, 0, 10);
        x.fare(0, 2, 0, 0, 20);
        for (int i = 0; i < 4; i++) {
            x.fare(0, i, (i + 1) % 4, 0, 1 + i);
        }
        for (int i = 0; i < 6; i++) {
            x.rules(i, -1, 61, 0, true, 0, false);
        }
        Networks.draft(x, 1, 101, 201, 301);
        price(x, "two halves of two legs each; not four halves", 30, 1);
        x.rules(2, -1, 61, 0, false, 0, false);
        x.rules(3, -1, 61, 0, false, 0, false);
        price(x, "not two halves and two that are none", 30, 1);
        x.rules(4, -1, 61, 0, false, 0, false);
        price(x, "not one half and three that are none", 30, 1);
        x.rules(5, -1, 61, 0, false, 0, false);
        price(x, "four that are none", 10, 1);
        x.rules(5, -1, 61, 30, false, 0, false);
        x.rules(0, -1, 61, 0, true, 1, false);
        price(x, "a stay of a day", -1, 1);
        Networks.draft(x, 1, 101, 202, 302);
        price(x, "26 hours to the next day's", 30, 1);
        Networks.draft(x, 1, 101);
        price(x, "one stretch that is a half", 3, 1);
    }

    private static void stayOfUnevenReturns() {
        FareLattice x = new FareLattice();
        for (int i = 0; i < 3; i++) {
            Networks.daily(x, i, (i + 1) % 3, 8 + 4 * i, 2, 9);
        }
        x.fare(0, 0, 1, 0, 10);
        x.fare(0, 1, 0, 0, 20);
        for (int i = 0; i < 2; i++) {
            x.rules(i, -1, 61, 0, true, 1, false);
        }
        Networks.draft(x, 1, 101, 202);
        price(x, "a day, but not between the stretches", -1, 1);
        Networks.draft(x, 1, 102, 202);
        price(x, "26 hours between one leg and two", 30, 1);
        x.rules(0, -1, 61, 0, false, 0, false);
        x.rules(1, -1, 61, 0, false, 0, false);
        x.fare(0, 0, 2, 0, 1);
        x.fare(0, 2, 0, 0, 2);
        for (int i = 2; i < 4; i++) {
            x.rules(i, -1, 61, 0, true, 1, false);
        }
        Networks.draft(x, 1, 101, 202);
        price(x, "26 hours between two legs and one", 3, 1);
        Networks.draft(x, 1, 101, 201);
        price(x, "2 hours", 30, 1);
    }

    private static void ownCarriers() {
        FareLattice x = new FareLattice();
        Networks.daily(x, 0, 0, 1, 8, 2, 9);
        Networks.daily(x, 1, 1, 2, 12, 2, 9);
        Networks.daily(x, 0, 1, 2, 14, 2, 9);
        x.fare(0, 0, 1, 0, 10);
        x.fare(1, 1, 2, 0, 20);
        x.fare(0, 1, 2, 0, 21);
        x.fare(-1, 1, 2, 0, 22);
        x.fare(-1, 0, 1, 0, 60);
        Networks.draft(x, 1, 101);
        price(x, "freely combined", 30, 1);
        x.rules(0, -1, 61, 0, false, 0, true);
        price(x, "the first with its carrier alone", 80, 1);
        CHECK.same("the one of any with the other carrier's", 41, x.stretch(1, 0));
        x.rules(1, -1, 61, 0, false, 0, true);
        price(x, "the second as well", 82, 1);
        x.rules(4, -1, 61, 0, false, 0, true);
        price(x, "any with any", 82, 1);
        Networks.draft(x, 1, 201);
        price(x, "fares of one carrier", 31, 1);
        x.rules(2, -1, 61, 30, false, 0, false);
        price(x, "any is not its carrier", 82, 1);
        x.rules(3, -1, 61, 30, false, 0, false);
        price(x, "nothing is left", -1, 1);
    }

    private static void ownIsAskedOfEach() {
        FareLattice x = new FareLattice();
        Networks.daily(x, 0, 0, 1, 8, 2, 9);
        Networks.daily(x, 1, 1, 2, 12, 2, 9);
        x.fare(0, 0, 1, 0, 10);
        x.fare(1, 1, 2, 0, 20);
        Networks.draft(x, 1, 101);
        x.rules(1, -1, 61, 0, false, 0, true);
        price(x, "the second one alone asks for it", -1, 1);
        Networks.draft(x, 1);
        x.rules(0, -1, 61, 0, false, 0, true);
        price(x, "alone it is possible", 10, 1);
    }

    private static void taxesOfTheDraft() {
        FareLattice x = new FareLattice();
        x.setTax(0, 1);
        x.setTax(1, 10);
        x.setTax(2, 100);
        Networks.daily(x, 0, 1, 8, 2, 9);
        Networks.daily(x, 1, 2, 15, 2, 9);
        Networks.daily(x, 1, 2, 16, 2, 9);
        Networks.daily(x, 2, 0, 23, 2, 9);
        CHECK.same("no leg", 0, x.taxes());
        x.leg(1);
        CHECK.same("where it begins", 1, x.taxes());
        x.leg(101);
        CHECK.same("5 hours are no stop", 1, x.taxes());
        x.leg(301);
        CHECK.same("6 hours are one", 101, x.taxes());
        Networks.draft(x, 1, 201, 301);
        CHECK.same("6 hours, then 5", 11, x.taxes());
        x.delay(1, 1);
        CHECK.same("5 hours by a delay", 1, x.taxes());
        x.delay(301, 1);
        CHECK.same("6 hours by a delay", 101, x.taxes());
        x.setTax(0, 3);
        CHECK.same("as it is set now", 103, x.taxes());
        Networks.draft(x, 102);
        CHECK.same("where it begins, elsewhere", 10, x.taxes());
        CHECK.same("the draft is as it was", 1, x.dropLegs());
    }

    public static void main(String[] args) {
        legs();
        legThatWouldFitOnceMore();
        priceAnewByItself();
        connectionIsAskedWhenDrafted();
        personsOfPrices();
        stretches();
        cheapestOfAllCuts();
        ties();
        carriers();
        lessThanADayWithinAStretch();
        buckets();
        daysOfFares();
        dayOfTheFirstDepartureAlone();
        advances();
        returns();
        returnsOfMoreLegs();
        stayOfUnevenReturns();
        ownCarriers();
        ownIsAskedOfEach();
        taxesOfTheDraft();
        CHECK.close();
    }
}
