import java.util.function.Supplier;

/** Promises 5 to 8, 11, 12 and 15: ferries, seats, going aboard, leaving and coming back, and the hours. */
public final class FerriesTest {
    private static final Due due = new Due();

    public static void main(String[] args) {
        ferry();
        seat();
        leaveSeat();
        aboard();
        aboardOfOneOnly();
        comeBack();
        pass();
        sailing();
        ofTraveller();
        longAfterTheSailing();
        numbersFarOff();
        due.end();
    }

    private static void ferry() {
        Ferrytax x = new Ferrytax();
        due.is("first ferry", x.ferry(1, 1), 0);
        due.is("second ferry", x.ferry(10000, 10), 1);
        due.outOfRange("hour of now", Ferrytax::new, y -> y.ferry(0, 1));
        due.outOfRange("hour ahead of now", FerriesTest::atTen, y -> y.ferry(9, 1));
        due.outOfRange("later hour of now", FerriesTest::atTen, y -> y.ferry(10, 1));
        due.is("the next hour", atTen().ferry(11, 1), 1);
        due.outOfRange("hour 10001", Ferrytax::new, y -> y.ferry(10001, 1));
        due.outOfRange("0 seats", Ferrytax::new, y -> y.ferry(1, 0));
        due.outOfRange("11 seats", Ferrytax::new, y -> y.ferry(1, 11));
        due.outOfRange("-1 seats", Ferrytax::new, y -> y.ferry(1, -1));
        Supplier<Ferrytax> full = () -> {
            Ferrytax y = new Ferrytax();
            for (int number = 0; number < 20; number++) {
                due.is("number of a ferry", y.ferry(5, 1), number);
            }
            return y;
        };
        due.notNow("ferry 20", full, y -> y.ferry(5, 1));
        due.outOfRange("ferry 20, wrong hour", full, y -> y.ferry(0, 1));
        due.outOfRange("ferry 20, wrong seats", full, y -> y.ferry(5, 11));
        due.is("a seat on ferry 19", full.get().seat(0, 19), 0);
        due.noSuch("a seat on ferry 20", full, y -> y.seat(0, 20));
        due.notNow("ferry 20, though all have sailed", () -> {
            Ferrytax y = full.get();
            y.pass(5);
            return y;
        }, y -> y.ferry(6, 1));
    }

    private static void seat() {
        Ferrytax x = new Ferrytax();
        x.ferry(5, 10);
        for (int traveller = 0; traveller < 10; traveller++) {
            due.is("seats left", x.seat(traveller, 0), 9 - traveller);
        }
        x.ferry(5, 2);
        due.is("a seat on a second ferry", x.seat(3, 1), 1);
        Supplier<Ferrytax> two = () -> {
            Ferrytax y = new Ferrytax();
            y.ferry(5, 2);
            y.seat(0, 0);
            return y;
        };
        due.notNow("a second seat on one ferry", two, y -> y.seat(0, 0));
        due.noSuch("seat of traveller -1", two, y -> y.seat(-1, 0));
        due.noSuch("seat of traveller 10", two, y -> y.seat(10, 0));
        due.noSuch("seat on ferry -1", two, y -> y.seat(1, -1));
        due.noSuch("seat on ferry 1", two, y -> y.seat(1, 1));
        due.notNow("seat on a full ferry", () -> {
            Ferrytax y = two.get();
            y.seat(1, 0);
            return y;
        }, y -> y.seat(2, 0));
        due.notNow("seat on a ferry that has sailed", () -> {
            Ferrytax y = two.get();
            y.pass(5);
            return y;
        }, y -> y.seat(1, 0));
        Ferrytax late = two.get();
        late.pass(4);
        due.is("seat in the last hour", late.seat(1, 0), 0);
        due.is("who is aboard keeps the seat", late.aboard(1, 0), 1);
        due.is("seats left by giving back", late.leaveSeat(0, 0), 0);
        due.is("a seat again", late.seat(2, 0), 0);
        due.notNow("seat of one who left", FerriesTest::sixLeftAtTen, y -> y.seat(6, 1));
        Ferrytax back = sixLeftAtTen();
        back.comeBack(6);
        due.is("seat of one who came back", back.seat(6, 1), 0);
    }

    private static void leaveSeat() {
        Supplier<Ferrytax> seated = () -> {
            Ferrytax y = new Ferrytax();
            y.ferry(5, 1);
            y.ferry(6, 1);
            y.seat(4, 0);
            return y;
        };
        Ferrytax x = seated.get();
        x.pass(4);
        due.is("no receipts are OPEN again", x.leaveSeat(4, 0), 0);
        due.is("the seat is free", x.seat(5, 0), 0);
        due.noSuch("leaveSeat of traveller -1", seated, y -> y.leaveSeat(-1, 0));
        due.noSuch("leaveSeat of traveller 10", seated, y -> y.leaveSeat(10, 0));
        due.noSuch("leaveSeat on ferry -1", seated, y -> y.leaveSeat(4, -1));
        due.noSuch("leaveSeat on ferry 2", seated, y -> y.leaveSeat(4, 2));
        due.notNow("leaveSeat without a seat", seated, y -> y.leaveSeat(5, 0));
        due.notNow("leaveSeat without a seat there", seated, y -> y.leaveSeat(4, 1));
        due.notNow("leaveSeat when it has sailed", () -> {
            Ferrytax y = seated.get();
            y.pass(5);
            return y;
        }, y -> y.leaveSeat(4, 0));
        Ferrytax ashore = seated.get();
        ashore.pass(3);
        ashore.aboard(4, 0);
        ashore.leaveSeat(4, 0);
        ashore.pass(2);
        due.is("who came ashore has not left", ashore.ofTraveller(4, 3), 0);
        due.is("who has no seat has not missed it", ashore.ofTraveller(4, 2), 0);
        Ferrytax gone = seated.get();
        gone.seat(4, 1);
        gone.pass(4);
        gone.aboard(4, 0);
        gone.pass(1);
        due.is("who has left can give another seat back", gone.leaveSeat(4, 1), 0);
    }

    private static void aboard() {
        Supplier<Ferrytax> early = () -> {
            Ferrytax y = new Ferrytax();
            y.ferry(10, 3);
            y.seat(4, 0);
            y.seat(5, 0);
            y.pass(6);
            return y;
        };
        due.notNow("aboard 4 hours before", early, y -> y.aboard(4, 0));
        Ferrytax x = early.get();
        x.pass(1);
        due.is("aboard 3 hours before", x.aboard(4, 0), 1);
        x.pass(2);
        due.is("aboard 1 hour before", x.aboard(5, 0), 2);
        Supplier<Ferrytax> late = () -> {
            Ferrytax y = early.get();
            y.pass(4);
            return y;
        };
        due.notNow("aboard when it has sailed", late, y -> y.aboard(4, 0));
        Supplier<Ferrytax> inTime = () -> {
            Ferrytax y = early.get();
            y.pass(1);
            return y;
        };
        due.notNow("aboard without a seat", inTime, y -> y.aboard(6, 0));
        due.noSuch("aboard of traveller -1", inTime, y -> y.aboard(-1, 0));
        due.noSuch("aboard of traveller 10", inTime, y -> y.aboard(10, 0));
        due.noSuch("aboard of ferry -1", inTime, y -> y.aboard(4, -1));
        due.noSuch("aboard of ferry 1", inTime, y -> y.aboard(4, 1));
    }

    private static void aboardOfOneOnly() {
        Supplier<Ferrytax> aboardZero = () -> {
            Ferrytax y = new Ferrytax();
            y.ferry(2, 2);
            y.ferry(3, 2);
            y.seat(4, 0);
            y.seat(4, 1);
            y.aboard(4, 0);
            return y;
        };
        due.notNow("aboard of it twice", aboardZero, y -> y.aboard(4, 0));
        due.notNow("aboard of another", aboardZero, y -> y.aboard(4, 1));
        Ferrytax x = aboardZero.get();
        x.leaveSeat(4, 0);
        due.is("aboard of another, once ashore", x.aboard(4, 1), 1);
        Supplier<Ferrytax> gone = () -> {
            Ferrytax y = aboardZero.get();
            y.pass(2);
            return y;
        };
        due.notNow("aboard of one who left", gone, y -> y.aboard(4, 1));
        Ferrytax back = gone.get();
        back.comeBack(4);
        due.is("aboard of one who came back", back.aboard(4, 1), 1);
    }

    private static void comeBack() {
        Ferrytax x = new Ferrytax();
        for (int time = 1; time <= 3; time++) {
            int ferry = x.ferry(time, 1);
            x.seat(8, ferry);
            x.aboard(8, ferry);
            x.pass(1);
            due.is("has left", x.ofTraveller(8, 3), 1);
            due.is("how often they left", x.comeBack(8), time);
            due.is("is on the island", x.ofTraveller(8, 3), 0);
        }
        due.notNow("comeBack of one on the island", FerriesTest::sixLeftAtTen, y -> y.comeBack(5));
        due.notNow("comeBack twice", () -> {
            Ferrytax y = sixLeftAtTen();
            y.comeBack(6);
            return y;
        }, y -> y.comeBack(6));
        due.noSuch("comeBack of traveller -1", FerriesTest::sixLeftAtTen, y -> y.comeBack(-1));
        due.noSuch("comeBack of traveller 10", FerriesTest::sixLeftAtTen, y -> y.comeBack(10));
    }

    private static void pass() {
        Ferrytax x = new Ferrytax();
        due.is("one hour", x.pass(1), 1);
        due.is("100 hours", x.pass(100), 101);
        due.outOfRange("0 hours", Ferrytax::new, y -> y.pass(0));
        due.outOfRange("-1 hours", Ferrytax::new, y -> y.pass(-1));
        due.outOfRange("101 hours", Ferrytax::new, y -> y.pass(101));
        Supplier<Ferrytax> nearTheEnd = () -> {
            Ferrytax y = new Ferrytax();
            for (int hundred = 0; hundred < 99; hundred++) {
                y.pass(100);
            }
            y.pass(95);
            y.ferry(10000, 1);
            y.seat(0, 0);
            return y;
        };
        due.notNow("to hour 10001", nearTheEnd, y -> y.pass(6));
        due.outOfRange("101 hours near the end", nearTheEnd, y -> y.pass(101));
        Ferrytax last = nearTheEnd.get();
        due.is("to the last hour", last.pass(5), 10000);
        due.is("the ferry of the last hour sails", last.ofTraveller(0, 2), 1);
        try {
            last.pass(1);
            due.report("an hour behind the last one");
        } catch (IllegalStateException e) {
            due.is("the ferry sails once", last.ofTraveller(0, 2), 1);
        }
    }

    private static void sailing() {
        Ferrytax x = new Ferrytax();
        x.ferry(3, 2);
        x.ferry(3, 2);
        x.ferry(4, 2);
        x.ferry(9, 2);
        for (int ferry = 0; ferry < 4; ferry++) {
            x.seat(0, ferry);
        }
        x.seat(1, 2);
        x.aboard(0, 1);
        x.pass(2);
        due.is("nobody has left ahead of the hour", x.ofTraveller(0, 3), 0);
        x.pass(2);
        due.is("has left with the second", x.ofTraveller(0, 3), 1);
        due.is("missed the first and the third", x.ofTraveller(0, 2), 2);
        due.is("the other missed one", x.ofTraveller(1, 2), 1);
        due.is("who missed it has not left", x.ofTraveller(1, 3), 0);
        x.pass(100);
        due.is("missed the fourth too", x.ofTraveller(0, 2), 3);
        due.is("left once", x.comeBack(0), 1);
        due.is("who had no seat missed none", x.ofTraveller(2, 2), 0);
    }

    private static void ofTraveller() {
        Ferrytax x = sixLeftAtTen();
        due.is("all refunds", x.ofTraveller(6, 0), 90);
        due.is("fines", x.ofTraveller(6, 1), 50);
        due.is("missed", x.ofTraveller(6, 2), 0);
        due.is("left", x.ofTraveller(6, 3), 1);
        x.comeBack(6);
        due.is("refunds stay", x.ofTraveller(6, 0), 90);
        due.is("not left", x.ofTraveller(6, 3), 0);
        due.noSuch("traveller -1", Ferrytax::new, y -> y.ofTraveller(-1, 0));
        due.noSuch("traveller 10", Ferrytax::new, y -> y.ofTraveller(10, 0));
        due.noSuch("traveller 10, wrong what", Ferrytax::new, y -> y.ofTraveller(10, 4));
        due.outOfRange("what -1", Ferrytax::new, y -> y.ofTraveller(0, -1));
        due.outOfRange("what 4", Ferrytax::new, y -> y.ofTraveller(0, 4));
    }

    private static void longAfterTheSailing() {
        Supplier<Ferrytax> late = () -> {
            Ferrytax y = sixLeftAtTen();
            y.buy(0, 7, 0, 100);
            y.seat(7, 1);
            y.pass(50);
            return y;
        };
        due.notNow("seat long after", late, y -> y.seat(8, 0));
        due.notNow("leaveSeat long after", late, y -> y.leaveSeat(7, 1));
        due.notNow("aboard long after", late, y -> y.aboard(7, 1));
        due.notNow("stamp long after", late, y -> y.stamp(2, 1));
    }

    private static void numbersFarOff() {
        int[] numbers = {12, 21, Integer.MAX_VALUE, -2, Integer.MIN_VALUE};
        for (int n : numbers) {
            due.noSuch("seat of traveller " + n, FerriesTest::sixLeftAtTen, y -> y.seat(n, 1));
            due.noSuch("seat on ferry " + n, FerriesTest::sixLeftAtTen, y -> y.seat(0, n));
            due.noSuch("leaveSeat of traveller " + n, FerriesTest::sixLeftAtTen, y -> y.leaveSeat(n, 1));
            due.noSuch("leaveSeat on ferry " + n, FerriesTest::sixLeftAtTen, y -> y.leaveSeat(0, n));
            due.noSuch("aboard of traveller " + n, FerriesTest::sixLeftAtTen, y -> y.aboard(n, 1));
            due.noSuch("aboard of ferry " + n, FerriesTest::sixLeftAtTen, y -> y.aboard(0, n));
            due.noSuch("stamp for ferry " + n, FerriesTest::sixLeftAtTen, y -> y.stamp(0, n));
            due.noSuch("comeBack of traveller " + n, FerriesTest::sixLeftAtTen, y -> y.comeBack(n));
            due.noSuch("ofTraveller " + n, FerriesTest::sixLeftAtTen, y -> y.ofTraveller(n, 0));
            due.outOfRange("what " + n, FerriesTest::sixLeftAtTen, y -> y.ofTraveller(0, n));
            due.noSuch("refundsAnew of traveller " + n, FerriesTest::sixLeftAtTen, y -> y.refundsAnew(n));
            due.outOfRange("a ferry with seats " + n, FerriesTest::sixLeftAtTen, y -> y.ferry(20, n));
        }
        due.outOfRange("a ferry at the highest int", Ferrytax::new, y -> y.ferry(Integer.MAX_VALUE, 1));
        due.outOfRange("a ferry at the lowest int", Ferrytax::new, y -> y.ferry(Integer.MIN_VALUE, 1));
        due.outOfRange("the highest int to pass", Ferrytax::new, y -> y.pass(Integer.MAX_VALUE));
        due.outOfRange("the lowest int to pass", Ferrytax::new, y -> y.pass(Integer.MIN_VALUE));
    }

    private static Ferrytax atTen() {
        Ferrytax x = new Ferrytax();
        x.ferry(10, 1);
        x.pass(10);
        return x;
    }

    /** Traveller 6 has left with ferry 0 at 10, got 90 back and owes a fine; ferry 1 sails at 20 with one seat. */
    private static Ferrytax sixLeftAtTen() {
        Ferrytax x = new Ferrytax();
        x.buy(0, 6, 0, 1000);
        x.buy(0, 6, 0, 1000);
        x.ferry(10, 1);
        x.ferry(20, 1);
        x.seat(6, 0);
        x.stamp(0, 0);
        x.stamp(1, 0);
        x.check(1, false);
        x.pass(7);
        x.aboard(6, 0);
        x.pass(3);
        return x;
    }
}
