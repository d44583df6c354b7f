import java.util.function.IntFunction;
import java.util.function.Supplier;

/** Each sentence on travellers, ferries, seats, going aboard, leaving and the hours that names a boundary. */
public final class FerryBoundariesTest {
    private static final Due due = new Due();
    private static final int[] SAILINGS = {1, 2, 3, 4, 12, 13, 101, 10000};

    public static void main(String[] args) {
        noFerriesAtFirst();
        hoursOfAFerry();
        seatsOfAFerry();
        atMostTwentyFerries();
        numbersOfTravellersAndFerries();
        seatUpToTheHour();
        seatBackUpToTheHour();
        aboardInTheThreeHoursAhead();
        aboardAtHourZero();
        oneSeatEach();
        aboardOfOneFerry();
        leftWhenItSails();
        missedWithASeatAlone();
        missedByOneWhoLeftWithAnother();
        seatTakesOneOnTheIsland();
        comeBackAtOnce();
        hoursThatPass();
        noHourAboveTheLast();
        eachHourOfAPass();
        whatOfATraveller();
        lastTravellerOnTheLastFerry();
        due.end();
    }

    // "No receipts, no ferries; all travellers are on the island."
    private static void noFerriesAtFirst() {
        due.noSuch("ferry 0 of a new object, seat", Ferrytax::new, y -> y.seat(0, 0));
        due.noSuch("ferry 0 of a new object, leaveSeat", Ferrytax::new, y -> y.leaveSeat(0, 0));
        due.noSuch("ferry 0 of a new object, aboard", Ferrytax::new, y -> y.aboard(0, 0));
        due.noSuch("ferry 0 of a new object, stamp", () -> {
            Ferrytax y = new Ferrytax();
            y.buy(0, 0, 0, 100);
            return y;
        }, y -> y.stamp(0, 0));
        for (int traveller = 0; traveller < 10; traveller++) {
            Ferrytax x = twoFerries();
            due.is("a seat at once", x.seat(traveller, 0), 9);
            due.is("aboard at once", x.aboard(traveller, 0), 1);
        }
    }

    // "hour: the hour behind that of now, to 10000"
    private static void hoursOfAFerry() {
        for (int now : new int[] {0, 1, 50, 9999}) {
            due.values("a ferry's hour at " + now, () -> Due.after(new Ferrytax(), now), now + 1, 10000,
                (y, n) -> y.ferry(n, 1));
        }
        Supplier<Ferrytax> last = () -> Due.after(new Ferrytax(), 10000);
        due.outOfRange("a ferry at 10000, then", last, y -> y.ferry(10000, 1));
        due.outOfRange("a ferry at 10001, then", last, y -> y.ferry(10001, 1));
    }

    // "seats: 1 to 10"
    private static void seatsOfAFerry() {
        due.values("seats", Ferrytax::new, 1, 10, (y, n) -> y.ferry(1, n));
        for (int seats = 1; seats <= 10; seats++) {
            Ferrytax x = seated(seats, seats - 1);
            due.is("the last of " + seats + " seats", x.seat(9, 0), 0);
            if (seats < 10) {
                int s = seats;
                due.notNow("a seat behind the last of " + s, () -> seated(s, s), y -> y.seat(9, 0));
            }
            due.is("given back", x.leaveSeat(9, 0), 0);
            due.is("taken again", x.seat(9, 0), 0);
        }
    }

    // "Ferries are numbered from 0, at most 20"
    private static void atMostTwentyFerries() {
        due.is("the 20th", ferries(19).ferry(1, 1), 19);
        due.notNow("the 21st", () -> ferries(20), y -> y.ferry(1, 1));
        due.notNow("the 21st, all have sailed", () -> Due.after(ferries(20), 1), y -> y.ferry(2, 1));
    }

    // "traveller: 0 to 9", "ferry: its number"
    private static void numbersOfTravellersAndFerries() {
        due.numbers("seat of traveller", FerryBoundariesTest::twoFerries, 10, (y, n) -> y.seat(n, 1));
        due.numbers("seat on ferry", FerryBoundariesTest::twoFerries, 2, (y, n) -> y.seat(9, n));
        Supplier<Ferrytax> all = FerryBoundariesTest::allSeated;
        due.numbers("leaveSeat of traveller", all, 10, (y, n) -> y.leaveSeat(n, 1));
        due.numbers("leaveSeat on ferry", all, 2, (y, n) -> y.leaveSeat(9, n));
        due.numbers("aboard, traveller", all, 10, (y, n) -> y.aboard(n, 1));
        due.numbers("aboard of ferry", all, 2, (y, n) -> y.aboard(9, n));
        due.numbers("seat on one of 20", () -> ferries(20), 20, (y, n) -> y.seat(0, n));
        Supplier<Ferrytax> gone = () -> {
            Ferrytax y = allSeated();
            for (int traveller = 0; traveller < 10; traveller++) {
                y.aboard(traveller, 0);
            }
            return Due.after(y, 1);
        };
        due.numbers("comeBack of traveller", gone, 10, Ferrytax::comeBack);
        due.numbers("ofTraveller, traveller", Ferrytax::new, 10, (y, n) -> y.ofTraveller(n, 3));
        due.numbers("refundsAnew of traveller", Ferrytax::new, 10, Ferrytax::refundsAnew);
    }

    // "A traveller can take a seat .. up to that hour, not included."
    private static void seatUpToTheHour() {
        for (int sails : SAILINGS) {
            due.until("seat, sails at " + sails, sails - 1, hour -> planned(sails, hour), y -> y.seat(9, 0));
        }
    }

    // ".. and give it back, up to that hour, not included."
    private static void seatBackUpToTheHour() {
        for (int sails : SAILINGS) {
            due.until("leaveSeat, sails at " + sails, sails - 1, seatedAt(sails), y -> y.leaveSeat(9, 0));
            due.is("leaveSeat at once", seatedAt(sails).apply(0).leaveSeat(9, 0), 0);
        }
        IntFunction<Ferrytax> aboard = hour -> {
            Ferrytax y = seatedAt(5).apply(4);
            y.aboard(9, 0);
            return Due.after(y, hour - 4);
        };
        due.until("leaveSeat of one aboard", 4, aboard, y -> y.leaveSeat(9, 0));
    }

    // "from 3 hours before it on, up to it, not included"
    private static void aboardInTheThreeHoursAhead() {
        for (int sails : SAILINGS) {
            if (sails > 3) {
                due.from("aboard, sails at " + sails, sails - 3, seatedAt(sails), y -> y.aboard(9, 0));
                due.is("between, sails at " + sails, seatedAt(sails).apply(sails - 2).aboard(9, 0), 1);
            }
            due.until("aboard, sails at " + sails, sails - 1, seatedAt(sails), y -> y.aboard(9, 0));
        }
    }

    // The 3 hours reach to hour 0 of a ferry at 3, and not of one at 4.
    private static void aboardAtHourZero() {
        due.is("aboard at 0 for a ferry at 3", seatedAt(3).apply(0).aboard(9, 0), 1);
        due.notNow("aboard at 0 for a ferry at 4", () -> seatedAt(4).apply(0), y -> y.aboard(9, 0));
    }

    // "Throws IllegalStateException if .. the traveller has one there"
    private static void oneSeatEach() {
        due.notNow("a second seat", () -> seatedAt(5).apply(0), y -> y.seat(9, 0));
        due.notNow("a second seat, aboard", FerryBoundariesTest::nineAboard, y -> y.seat(9, 0));
        due.notNow("leaveSeat of another", () -> seatedAt(5).apply(4), y -> y.leaveSeat(8, 0));
        due.notNow("aboard without a seat", () -> seatedAt(5).apply(4), y -> y.aboard(8, 0));
        due.notNow("leaveSeat twice", () -> {
            Ferrytax y = nineAboard();
            y.leaveSeat(9, 0);
            return y;
        }, y -> y.leaveSeat(9, 0));
    }

    // "Throws IllegalStateException if the traveller .. is aboard of some ferry"
    private static void aboardOfOneFerry() {
        for (int first = 0; first < 2; first++) {
            int taken = first;
            Supplier<Ferrytax> scene = () -> {
                Ferrytax y = allSeated();
                y.aboard(9, taken);
                return y;
            };
            due.notNow("aboard of ferry " + taken + " twice", scene, y -> y.aboard(9, taken));
            due.notNow("aboard of both, first " + taken, scene, y -> y.aboard(9, 1 - taken));
            due.is("another goes aboard", scene.get().aboard(8, taken), 2);
            due.is("another goes aboard of the other", scene.get().aboard(8, 1 - taken), 1);
            Ferrytax x = scene.get();
            x.leaveSeat(9, taken);
            due.is("ashore, aboard of the other", x.aboard(9, 1 - taken), 1);
        }
        Ferrytax back = Due.after(nineAboard(), 1);
        back.comeBack(9);
        back.ferry(3, 1);
        back.seat(9, 1);
        due.is("aboard again when back", back.aboard(9, 1), 1);
    }

    // "When it sails, those aboard have left"
    private static void leftWhenItSails() {
        for (int sails : SAILINGS) {
            Ferrytax x = seatedAt(sails).apply(sails - 1);
            x.seat(0, 0);
            x.aboard(9, 0);
            due.is("an hour ahead, sails at " + sails, x.ofTraveller(9, 3), 0);
            due.is("missed an hour ahead", x.ofTraveller(0, 2), 0);
            x.pass(1);
            due.is("at the hour, sails at " + sails, x.ofTraveller(9, 3), 1);
            due.is("who has left missed nothing", x.ofTraveller(9, 2), 0);
            due.is("missed at the hour", x.ofTraveller(0, 2), 1);
            due.is("who missed it is there", x.ofTraveller(0, 3), 0);
        }
    }

    // "those who have a seat and are not aboard have missed it"
    private static void missedWithASeatAlone() {
        Ferrytax x = allSeated();
        x.leaveSeat(4, 0);
        x.aboard(5, 0);
        x.leaveSeat(5, 0);
        x.aboard(6, 0);
        x.leaveSeat(6, 0);
        x.seat(6, 0);
        x.pass(2);
        due.is("seat given back", x.ofTraveller(4, 2), 1);
        due.is("seat given back aboard", x.ofTraveller(5, 2), 1);
        due.is("ashore with a seat again", x.ofTraveller(6, 2), 2);
        due.is("two seats", x.ofTraveller(9, 2), 2);
        due.is("nobody has left", x.ofTraveller(6, 3), 0);
        due.is("once and for all", Due.after(x, 100).ofTraveller(9, 2), 2);
        Ferrytax all = ferries(20);
        for (int ferry = 0; ferry < 20; ferry++) {
            all.seat(9, ferry);
        }
        due.is("missed 20", Due.after(all, 1).ofTraveller(9, 2), 20);
    }

    // ".. have missed it, also if they have left with another one"
    private static void missedByOneWhoLeftWithAnother() {
        for (int other = -1; other <= 1; other++) {
            Ferrytax x = new Ferrytax();
            x.ferry(3 + Math.min(other, 0), 1);
            x.ferry(3, 1);
            x.ferry(3 + Math.max(other, 0), 1);
            for (int ferry = 0; ferry < 3; ferry++) {
                x.seat(9, ferry);
            }
            x.aboard(9, 1);
            x.pass(5);
            due.is("left once", x.ofTraveller(9, 3), 1);
            due.is("missed those around it", x.ofTraveller(9, 2), 2);
            due.is("how often they left", x.comeBack(9), 1);
        }
    }

    // "Throws IllegalStateException if .. the traveller .. has left"
    private static void seatTakesOneOnTheIsland() {
        Supplier<Ferrytax> gone = () -> {
            Ferrytax y = nineAboard();
            y.ferry(3, 2);
            y.ferry(3, 2);
            y.seat(9, 1);
            return Due.after(y, 1);
        };
        due.notNow("seat when left", gone, y -> y.seat(9, 2));
        due.notNow("aboard when left", gone, y -> y.aboard(9, 1));
        due.is("giving the seat back when left", gone.get().leaveSeat(9, 1), 0);
        due.notNow("leaving the ferry that has sailed", gone, y -> y.leaveSeat(9, 0));
        Ferrytax x = gone.get();
        x.comeBack(9);
        due.is("seat when back", x.seat(9, 2), 1);
        due.is("aboard when back, by the seat of old", x.aboard(9, 1), 1);
    }

    // "Who has left, can come back by hand, and is on the island again."
    private static void comeBackAtOnce() {
        due.notNow("comeBack of one aboard", FerryBoundariesTest::nineAboard, y -> y.comeBack(9));
        due.notNow("comeBack of one who missed it", () -> seatedAt(2).apply(2), y -> y.comeBack(9));
        due.notNow("comeBack twice", () -> {
            Ferrytax y = nineGone();
            y.comeBack(9);
            return y;
        }, y -> y.comeBack(9));
        due.is("comeBack in the hour of the sailing", nineGone().comeBack(9), 1);
        Ferrytax x = Due.after(nineGone(), 9998);
        due.is("comeBack long after", x.comeBack(9), 1);
        due.is("on the island again", x.ofTraveller(9, 3), 0);
    }

    // "hours: 1 to 100"
    private static void hoursThatPass() {
        due.values("hours", Ferrytax::new, 1, 100, Ferrytax::pass);
        due.values("hours, at 9900", () -> Due.after(new Ferrytax(), 9900), 1, 100, Ferrytax::pass);
        Ferrytax x = new Ferrytax();
        int now = 0;
        for (int hours = 1; hours <= 100; hours++) {
            now += hours;
            due.is("the hour behind " + hours, x.pass(hours), now);
        }
    }

    // "Throws IllegalStateException if it would be above 10000"
    private static void noHourAboveTheLast() {
        for (int left : new int[] {0, 1, 50, 99}) {
            Supplier<Ferrytax> late = () -> seatedAt(10000).apply(10000 - left);
            if (left > 0) {
                due.is("to 10000 by " + left, late.get().pass(left), 10000);
            }
            due.notNow("to 10001 by " + (left + 1), late, y -> y.pass(left + 1));
            due.notNow("100 at " + (10000 - left), late, y -> y.pass(100));
        }
    }

    // "in each of them ferries that sail at it sail"
    private static void eachHourOfAPass() {
        for (int hours : new int[] {1, 2, 99, 100}) {
            Ferrytax x = new Ferrytax();
            int[] sailings = {1, (hours + 1) / 2, hours, hours + 1};
            for (int ferry = 0; ferry < sailings.length; ferry++) {
                x.ferry(sailings[ferry], 1);
                x.seat(ferry, ferry);
            }
            x.pass(hours);
            for (int ferry = 0; ferry < sailings.length; ferry++) {
                due.is("sails at " + sailings[ferry] + " of " + hours, x.ofTraveller(ferry, 2), ferry < 3 ? 1 : 0);
            }
            x.pass(1);
            due.is("sails an hour behind " + hours, x.ofTraveller(3, 2), 1);
        }
    }

    // "what: 0 all refunds; 1 fines; 2 how many ferries they missed; 3 whether they have left, 1 or 0"
    private static void whatOfATraveller() {
        due.values("what of a traveller", FerryBoundariesTest::nineGone, 0, 3, (y, n) -> y.ofTraveller(9, n));
    }

    // The last of 10 travellers on the last of 20 ferries does all that the first does on the first.
    private static void lastTravellerOnTheLastFerry() {
        Ferrytax x = ferries(19);
        x.ferry(1, 10);
        for (int traveller = 0; traveller < 10; traveller++) {
            due.is("seats left", x.seat(traveller, 19), 9 - traveller);
            due.is("aboard", x.aboard(traveller, 19), traveller + 1);
        }
        due.is("the first comes ashore", x.leaveSeat(0, 19), 0);
        x.pass(1);
        due.is("the first is there", x.ofTraveller(0, 3), 0);
        for (int traveller = 1; traveller < 10; traveller++) {
            due.is("has left", x.ofTraveller(traveller, 3), 1);
            due.is("how often", x.comeBack(traveller), 1);
        }
    }

    /** Two ferries of ten seats, at 1 and at 2. */
    static Ferrytax twoFerries() {
        Ferrytax x = new Ferrytax();
        x.ferry(1, 10);
        x.ferry(2, 10);
        return x;
    }

    /** All travellers have seats on both ferries of twoFerries. */
    private static Ferrytax allSeated() {
        Ferrytax x = twoFerries();
        for (int traveller = 0; traveller < 10; traveller++) {
            x.seat(traveller, 0);
            x.seat(traveller, 1);
        }
        return x;
    }

    /** Traveller 9 is aboard of ferry 0, which sails in an hour, at 2. */
    static Ferrytax nineAboard() {
        Ferrytax x = seatedAt(2).apply(1);
        x.aboard(9, 0);
        return x;
    }

    /** Traveller 9 has left with ferry 0, at 2. */
    static Ferrytax nineGone() {
        return Due.after(nineAboard(), 1);
    }

    /** Ferry 0 of two seats, and the hour now. */
    private static Ferrytax planned(int sails, int now) {
        Ferrytax x = new Ferrytax();
        x.ferry(sails, 2);
        return Due.after(x, now);
    }

    /** Traveller 9 has a seat on ferry 0 of two seats. */
    private static IntFunction<Ferrytax> seatedAt(int sails) {
        return hour -> {
            Ferrytax x = planned(sails, 0);
            x.seat(9, 0);
            return Due.after(x, hour);
        };
    }

    /** Ferry 0 with so many seats, of which the first travellers have taken some. */
    private static Ferrytax seated(int seats, int taken) {
        Ferrytax x = new Ferrytax();
        x.ferry(5, seats);
        for (int traveller = 0; traveller < taken; traveller++) {
            x.seat(traveller, 0);
        }
        return x;
    }

    /** So many ferries of one seat, all at 1. */
    private static Ferrytax ferries(int count) {
        Ferrytax x = new Ferrytax();
        for (int ferry = 0; ferry < count; ferry++) {
            x.ferry(1, 1);
        }
        return x;
    }
}
