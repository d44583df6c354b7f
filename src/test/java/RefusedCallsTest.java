/** "A method that throws an exception changes nothing.", for each reason, where there is a lot that could change. */
public final class RefusedCallsTest {
    private static final Due due = new Due();

    public static void main(String[] args) {
        theSceneItself();
        rate();
        buy();
        giveBack();
        ferry();
        seat();
        leaveSeat();
        aboard();
        stamp();
        check();
        comeBack();
        pass();
        askers();
        due.end();
    }

    private static void theSceneItself() {
        Ferrytax x = scene();
        int[] states = {Ferrytax.PAID, Ferrytax.OPEN, Ferrytax.VOID, Ferrytax.STAMPED, Ferrytax.BACK, Ferrytax.OPEN,
            Ferrytax.OPEN, Ferrytax.STAMPED};
        for (int receipt = 0; receipt < states.length; receipt++) {
            due.is("state of " + receipt, x.ofReceipt(receipt, 0), states[receipt]);
        }
        due.is("a refund", x.refundsAnew(0), 180);
        due.is("a fine", x.ofTraveller(1, 1), 50);
        due.is("missed", x.ofTraveller(1, 2), 1);
        due.is("left", x.ofTraveller(2, 3), 1);
        due.is("back", x.ofTraveller(0, 3), 0);
        due.is("the hour", x.pass(1), 7);
    }

    private static void rate() {
        due.noSuch("kind 4", RefusedCallsTest::scene, y -> y.rate(4, 5));
        due.noSuch("kind -1", RefusedCallsTest::scene, y -> y.rate(-1, 5));
        due.outOfRange("rate 51", RefusedCallsTest::scene, y -> y.rate(1, 51));
        due.outOfRange("rate -1", RefusedCallsTest::scene, y -> y.rate(1, -1));
    }

    private static void buy() {
        due.noSuch("shop 5", RefusedCallsTest::scene, y -> y.buy(5, 0, 0, 100));
        due.noSuch("traveller 10", RefusedCallsTest::scene, y -> y.buy(0, 10, 0, 100));
        due.noSuch("kind 4", RefusedCallsTest::scene, y -> y.buy(0, 0, 4, 100));
        due.outOfRange("price 0", RefusedCallsTest::scene, y -> y.buy(0, 0, 0, 0));
        due.outOfRange("price 10001", RefusedCallsTest::scene, y -> y.buy(0, 0, 0, 10001));
        due.notNow("buy of one who left", RefusedCallsTest::scene, y -> y.buy(0, 2, 0, 100));
        due.notNow("buy of a 61st", RefusedCallsTest::crowdedScene, y -> y.buy(0, 0, 0, 100));
    }

    private static void giveBack() {
        due.noSuch("receipt 8", RefusedCallsTest::scene, y -> y.giveBack(8));
        due.noSuch("receipt -1", RefusedCallsTest::scene, y -> y.giveBack(-1));
        for (int receipt : new int[] {0, 2, 3, 4, 7}) {
            due.notNow("not OPEN, " + receipt, RefusedCallsTest::scene, y -> y.giveBack(receipt));
        }
        due.notNow("left", RefusedCallsTest::scene, y -> y.giveBack(6));
        due.notNow("too late", () -> Due.after(scene(), 235), y -> y.giveBack(1));
    }

    private static void ferry() {
        for (int hour : new int[] {0, 5, 6, 10001}) {
            due.outOfRange("hour " + hour, RefusedCallsTest::scene, y -> y.ferry(hour, 1));
        }
        due.outOfRange("0 seats", RefusedCallsTest::scene, y -> y.ferry(9, 0));
        due.outOfRange("11 seats", RefusedCallsTest::scene, y -> y.ferry(9, 11));
        due.notNow("a 21st", RefusedCallsTest::crowdedScene, y -> y.ferry(9, 1));
    }

    private static void seat() {
        due.noSuch("traveller 10", RefusedCallsTest::scene, y -> y.seat(10, 3));
        due.noSuch("ferry 4", RefusedCallsTest::scene, y -> y.seat(5, 4));
        due.notNow("sailed", RefusedCallsTest::scene, y -> y.seat(3, 0));
        due.notNow("no seat is left", RefusedCallsTest::scene, y -> y.seat(5, 2));
        due.notNow("has one there", RefusedCallsTest::scene, y -> y.seat(0, 3));
        due.notNow("aboard there", RefusedCallsTest::scene, y -> y.seat(1, 2));
        due.notNow("left", RefusedCallsTest::scene, y -> y.seat(2, 3));
    }

    private static void leaveSeat() {
        due.noSuch("traveller 10", RefusedCallsTest::scene, y -> y.leaveSeat(10, 3));
        due.noSuch("ferry 4", RefusedCallsTest::scene, y -> y.leaveSeat(1, 4));
        due.notNow("sailed, left with it", RefusedCallsTest::scene, y -> y.leaveSeat(0, 0));
        due.notNow("sailed, missed it", RefusedCallsTest::scene, y -> y.leaveSeat(1, 0));
        due.notNow("no seat", RefusedCallsTest::scene, y -> y.leaveSeat(4, 3));
        due.notNow("no seat there, aboard elsewhere", () -> {
            Ferrytax y = scene();
            y.leaveSeat(1, 3);
            return y;
        }, y -> y.leaveSeat(1, 3));
    }

    private static void aboard() {
        due.noSuch("traveller 10", RefusedCallsTest::scene, y -> y.aboard(10, 2));
        due.noSuch("ferry 4", RefusedCallsTest::scene, y -> y.aboard(3, 4));
        due.notNow("no seat", RefusedCallsTest::scene, y -> y.aboard(5, 2));
        due.notNow("aboard of it", RefusedCallsTest::scene, y -> y.aboard(1, 2));
        due.notNow("left", RefusedCallsTest::scene, y -> y.aboard(2, 2));
        due.notNow("too early", RefusedCallsTest::scene, y -> y.aboard(0, 3));
        due.notNow("too late, left with it", RefusedCallsTest::scene, y -> y.aboard(0, 0));
        due.notNow("too late, missed it", RefusedCallsTest::scene, y -> y.aboard(1, 0));
        due.notNow("aboard of another", () -> {
            Ferrytax y = scene();
            y.ferry(8, 1);
            y.seat(1, 4);
            return y;
        }, y -> y.aboard(1, 4));
    }

    private static void stamp() {
        due.noSuch("receipt 8", RefusedCallsTest::scene, y -> y.stamp(8, 2));
        due.noSuch("ferry 4", RefusedCallsTest::scene, y -> y.stamp(1, 4));
        for (int receipt : new int[] {0, 2, 3, 4, 7}) {
            due.notNow("not OPEN, " + receipt, RefusedCallsTest::scene, y -> y.stamp(receipt, 2));
        }
        due.notNow("price of 49", RefusedCallsTest::scene, y -> y.stamp(5, 2));
        due.notNow("no seat there", RefusedCallsTest::scene, y -> y.stamp(1, 2));
        due.notNow("too early", RefusedCallsTest::scene, y -> y.stamp(1, 3));
        due.notNow("too late", RefusedCallsTest::scene, y -> y.stamp(1, 0));
    }

    private static void check() {
        due.noSuch("receipt 8", RefusedCallsTest::scene, y -> y.check(8, false));
        due.noSuch("receipt -1", RefusedCallsTest::scene, y -> y.check(-1, true));
        for (int receipt : new int[] {0, 1, 2, 4}) {
            due.notNow("not STAMPED, there, " + receipt, RefusedCallsTest::scene, y -> y.check(receipt, true));
            due.notNow("not STAMPED, not there, " + receipt, RefusedCallsTest::scene, y -> y.check(receipt, false));
        }
    }

    private static void comeBack() {
        due.noSuch("traveller 10", RefusedCallsTest::scene, y -> y.comeBack(10));
        due.notNow("came back", RefusedCallsTest::scene, y -> y.comeBack(0));
        due.notNow("aboard", RefusedCallsTest::scene, y -> y.comeBack(1));
        due.notNow("never left", RefusedCallsTest::scene, y -> y.comeBack(3));
    }

    private static void pass() {
        due.outOfRange("0 hours", RefusedCallsTest::scene, y -> y.pass(0));
        due.outOfRange("101 hours", RefusedCallsTest::scene, y -> y.pass(101));
        due.notNow("above 10000", () -> {
            Ferrytax y = Due.after(scene(), 9990);
            y.ferry(9999, 1);
            y.ferry(10000, 1);
            y.seat(0, 4);
            y.seat(0, 5);
            return y;
        }, y -> y.pass(5));
    }

    private static void askers() {
        due.noSuch("ofReceipt(8, 0)", RefusedCallsTest::scene, y -> y.ofReceipt(8, 0));
        due.outOfRange("ofReceipt(0, 4)", RefusedCallsTest::scene, y -> y.ofReceipt(0, 4));
        due.outOfRange("ofReceipt(0, -1)", RefusedCallsTest::scene, y -> y.ofReceipt(0, -1));
        due.noSuch("code(8, 0)", RefusedCallsTest::scene, y -> y.code(8, 0));
        due.noSuch("code(0, -1)", RefusedCallsTest::scene, y -> y.code(0, -1));
        due.noSuch("ofTraveller(10, 0)", RefusedCallsTest::scene, y -> y.ofTraveller(10, 0));
        due.outOfRange("ofTraveller(0, 4)", RefusedCallsTest::scene, y -> y.ofTraveller(0, 4));
        due.outOfRange("ofTraveller(0, -1)", RefusedCallsTest::scene, y -> y.ofTraveller(0, -1));
        due.noSuch("refundsAnew(10)", RefusedCallsTest::scene, y -> y.refundsAnew(10));
        due.noSuch("debt(5)", RefusedCallsTest::scene, y -> y.debt(5));
        due.noSuch("debt(-1)", RefusedCallsTest::scene, y -> y.debt(-1));
    }

    /**
     * At 6. Receipts: 0 PAID; 1 OPEN and 3 STAMPED for ferry 2, both with a stamp that came to nothing; 2 VOID; 4 BACK;
     * 5 of a price of 49; 6 of one who has left; 7 STAMPED for ferry 2, its first time. Travellers: 0 came back; 1 is
     * aboard of ferry 2; 2 has left; 3 has a seat. Ferries: 0 and 1 have sailed; 2 sails at 8, with no seat left; 3
     * sails at 20.
     */
    private static Ferrytax scene() {
        Ferrytax x = new Ferrytax();
        x.rate(1, 20);
        buyEight(x);
        x.ferry(2, 2);
        x.ferry(3, 2);
        x.ferry(8, 3);
        x.ferry(20, 3);
        takeAllSeats(x);
        x.stamp(0, 0);
        x.stamp(1, 1);
        x.stamp(2, 2);
        x.stamp(3, 0);
        x.check(2, false);
        x.giveBack(4);
        x.aboard(0, 0);
        x.aboard(2, 1);
        x.pass(2);
        x.comeBack(0);
        x.pass(4);
        x.stamp(3, 2);
        x.stamp(7, 2);
        x.aboard(1, 2);
        return x;
    }

    private static void buyEight(Ferrytax x) {
        x.buy(4, 0, 1, 1000);
        x.buy(3, 0, 0, 400);
        x.buy(2, 1, 0, 500);
        x.buy(1, 1, 0, 600);
        x.buy(3, 2, 0, 700);
        x.buy(2, 3, 0, 49);
        x.buy(4, 2, 0, 800);
        x.buy(4, 3, 0, 900);
    }

    private static void takeAllSeats(Ferrytax x) {
        int[] travellers = {0, 1, 0, 2, 1, 2, 3, 0, 1};
        int[] ferries = {0, 0, 1, 1, 2, 2, 2, 3, 3};
        for (int row = 0; row < ferries.length; row++) {
            x.seat(travellers[row], ferries[row]);
        }
    }

    /** The scene with 60 receipts and 20 ferries. */
    private static Ferrytax crowdedScene() {
        Ferrytax x = scene();
        for (int receipt = 8; receipt < 60; receipt++) {
            x.buy(0, 5, 0, 100);
        }
        for (int ferry = 4; ferry < 20; ferry++) {
            x.ferry(30, 1);
        }
        return x;
    }
}
