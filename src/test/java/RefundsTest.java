import java.util.function.Supplier;

/** Promises 7, 9, 10, 12 and 16: stamps, spot checks, what sailings do to stamps, and refunds found again. */
public final class RefundsTest {
    private static final Due due = new Due();

    public static void main(String[] args) {
        stamp();
        stampInTime();
        stampRefused();
        stampOfOneWhoLeft();
        check();
        checkRefused();
        refundsRounded();
        refundsBounded();
        boundMetExactly();
        boundIsOfOneTravellerAndSailing();
        stampsThatCameToNothing();
        stampsForTwoFerriesOfOneHour();
        seatGivenBack();
        seatGivenBackDoesNotCount();
        refundsAnew();
        due.end();
    }

    private static void stamp() {
        Ferrytax x = scene(100, 50, 49);
        due.is("stamp answers the tax", x.stamp(0, 0), 10);
        due.is("state", x.ofReceipt(0, 0), Ferrytax.STAMPED);
        due.is("ferry", x.ofReceipt(0, 3), 0);
        due.is("stamp of a price of 50", x.stamp(1, 1), 5);
        due.is("its ferry", x.ofReceipt(1, 3), 1);
        due.notNow("stamp of a price of 49", () -> scene(100, 50, 49), y -> y.stamp(2, 0));
    }

    private static void stampInTime() {
        Supplier<Ferrytax> early = () -> {
            Ferrytax y = new Ferrytax();
            y.buy(0, 0, 0, 100);
            y.ferry(20, 1);
            y.seat(0, 0);
            y.pass(7);
            return y;
        };
        due.notNow("stamp 13 hours before", early, y -> y.stamp(0, 0));
        Ferrytax x = early.get();
        x.pass(1);
        due.is("stamp 12 hours before", x.stamp(0, 0), 10);
        Ferrytax last = early.get();
        last.pass(12);
        due.is("stamp 1 hour before", last.stamp(0, 0), 10);
        due.notNow("stamp when it has sailed", () -> {
            Ferrytax y = early.get();
            y.pass(13);
            return y;
        }, y -> y.stamp(0, 0));
    }

    private static void stampRefused() {
        Supplier<Ferrytax> plain = () -> {
            Ferrytax y = scene(100);
            y.buy(0, 1, 0, 100);
            return y;
        };
        due.noSuch("stamp of receipt -1", plain, y -> y.stamp(-1, 0));
        due.noSuch("stamp of receipt 2", plain, y -> y.stamp(2, 0));
        due.noSuch("stamp for ferry -1", plain, y -> y.stamp(0, -1));
        due.noSuch("stamp for ferry 2", plain, y -> y.stamp(0, 2));
        due.notNow("stamp without a seat", plain, y -> y.stamp(1, 0));
        due.notNow("stamp of a STAMPED one", RefundsTest::stamped, y -> y.stamp(0, 1));
        due.notNow("stamp of a BACK one", () -> {
            Ferrytax y = scene(100);
            y.giveBack(0);
            return y;
        }, y -> y.stamp(0, 0));
        due.notNow("stamp of a VOID one", () -> {
            Ferrytax y = stamped();
            y.check(0, false);
            return y;
        }, y -> y.stamp(0, 0));
        due.notNow("stamp of a PAID one", () -> {
            Ferrytax y = stamped();
            y.aboard(0, 0);
            y.pass(2);
            return y;
        }, y -> y.stamp(0, 1));
    }

    // The document names no refusal for one who has left, only for one without a seat.
    private static void stampOfOneWhoLeft() {
        Ferrytax x = scene(100);
        x.aboard(0, 0);
        x.pass(2);
        due.is("has left", x.ofTraveller(0, 3), 1);
        due.is("stamp of one who left with another", x.stamp(0, 1), 10);
        x.pass(1);
        due.is("it came to nothing", x.ofReceipt(0, 0), Ferrytax.OPEN);
        due.is("and the ferry was missed", x.ofTraveller(0, 2), 1);
    }

    private static void check() {
        Ferrytax x = stamped();
        due.is("the goods are there", x.check(0, true), Ferrytax.STAMPED);
        due.is("still for the ferry", x.ofReceipt(0, 3), 0);
        due.is("no fine", x.ofTraveller(0, 1), 0);
        due.is("the goods are not there", x.check(0, false), Ferrytax.VOID);
        due.is("state", x.ofReceipt(0, 0), Ferrytax.VOID);
        due.is("no ferry any more", x.ofReceipt(0, 3), Ferrytax.NONE);
        due.is("a fine", x.ofTraveller(0, 1), 50);
        due.is("no fine of another", x.ofTraveller(1, 1), 0);
        x.aboard(0, 0);
        x.pass(2);
        due.is("VOID stays", x.ofReceipt(0, 0), Ferrytax.VOID);
        due.is("no refund", x.ofTraveller(0, 0), 0);
        due.is("no refund found", x.refundsAnew(0), 0);
        Ferrytax two = scene(100, 100);
        two.stamp(0, 0);
        two.stamp(1, 0);
        two.check(0, false);
        two.check(1, false);
        due.is("two fines", two.ofTraveller(0, 1), 100);
    }

    private static void checkRefused() {
        due.noSuch("check of receipt -1", RefundsTest::stamped, y -> y.check(-1, true));
        due.noSuch("check of receipt 1", RefundsTest::stamped, y -> y.check(1, false));
        due.notNow("check of an OPEN one", () -> scene(100), y -> y.check(0, true));
        due.notNow("check of a VOID one", () -> {
            Ferrytax y = stamped();
            y.check(0, false);
            return y;
        }, y -> y.check(0, false));
        due.notNow("check of a PAID one", () -> {
            Ferrytax y = stamped();
            y.aboard(0, 0);
            y.pass(2);
            return y;
        }, y -> y.check(0, false));
        due.notNow("check of a BACK one", () -> {
            Ferrytax y = scene(100);
            y.giveBack(0);
            return y;
        }, y -> y.check(0, false));
    }

    private static void refundsRounded() {
        int[] prices = {50, 90, 99, 100, 110, 190, 200, 210};
        int[] refunds = {4, 8, 8, 9, 9, 17, 18, 18};
        Ferrytax x = scene(prices);
        x.rate(0, 0);
        x.buy(0, 0, 0, 10000);
        x.rate(0, 1);
        x.buy(0, 0, 0, 100);
        sailWithAll(x, prices.length + 2);
        int sum = 0;
        for (int receipt = 0; receipt < prices.length; receipt++) {
            due.is("refund of " + prices[receipt], x.ofReceipt(receipt, 2), refunds[receipt]);
            due.is("state", x.ofReceipt(receipt, 0), Ferrytax.PAID);
            sum += refunds[receipt];
        }
        due.is("refund of no tax", x.ofReceipt(prices.length, 2), 0);
        due.is("PAID with no tax", x.ofReceipt(prices.length, 0), Ferrytax.PAID);
        due.is("refund of a tax of 1", x.ofReceipt(prices.length + 1, 2), 0);
        due.is("all refunds", x.ofTraveller(0, 0), sum);
        due.is("all refunds anew", x.refundsAnew(0), sum);
    }

    private static void refundsBounded() {
        Ferrytax x = scene(4000, 2000, 100, 10000);
        sailWithAll(x, 4);
        int[] refunds = {360, 140, 0, 0};
        for (int receipt = 0; receipt < 4; receipt++) {
            due.is("bounded refund of " + receipt, x.ofReceipt(receipt, 2), refunds[receipt]);
            due.is("PAID all the same", x.ofReceipt(receipt, 0), Ferrytax.PAID);
            due.is("PAID for the ferry", x.ofReceipt(receipt, 3), 0);
        }
        due.is("the bound", x.ofTraveller(0, 0), 500);
        due.is("the bound anew", x.refundsAnew(0), 500);
    }

    private static void boundMetExactly() {
        Ferrytax x = scene(5000, 550, 50);
        sailWithAll(x, 3);
        due.is("450 of 500", x.ofReceipt(0, 2), 450);
        due.is("49 more", x.ofReceipt(1, 2), 49);
        due.is("1 is left", x.ofReceipt(2, 2), 1);
        Ferrytax exact = new Ferrytax();
        exact.rate(0, 50);
        exact.buy(0, 0, 0, 1110);
        exact.buy(0, 0, 0, 100);
        exact.ferry(2, 1);
        exact.seat(0, 0);
        sailWithAll(exact, 2);
        due.is("499 of a tax of 555", exact.ofReceipt(0, 2), 499);
        due.is("what is left", exact.ofReceipt(1, 2), 1);
        Ferrytax full = scene(5000, 560);
        sailWithAll(full, 2);
        due.is("450 first", full.ofReceipt(0, 2), 450);
        due.is("50 to the bound", full.ofReceipt(1, 2), 50);
    }

    private static void boundIsOfOneTravellerAndSailing() {
        Ferrytax x = scene(10000, 10000);
        x.buy(0, 1, 0, 10000);
        x.seat(1, 0);
        x.stamp(0, 0);
        x.stamp(2, 0);
        x.aboard(0, 0);
        x.aboard(1, 0);
        x.stamp(1, 1);
        x.pass(2);
        due.is("one traveller", x.ofReceipt(0, 2), 500);
        due.is("another traveller", x.ofReceipt(2, 2), 500);
        due.is("still STAMPED for the other ferry", x.ofReceipt(1, 0), Ferrytax.STAMPED);
        x.comeBack(0);
        x.aboard(0, 1);
        x.pass(1);
        due.is("another sailing", x.ofReceipt(1, 2), 500);
        due.is("both sailings", x.ofTraveller(0, 0), 1000);
        due.is("both sailings anew", x.refundsAnew(0), 1000);
        due.is("of the other", x.refundsAnew(1), 500);
    }

    private static void stampsThatCameToNothing() {
        Ferrytax x = scene(100, 100);
        x.stamp(0, 0);
        x.pass(2);
        due.is("OPEN again", x.ofReceipt(0, 0), Ferrytax.OPEN);
        due.is("no ferry", x.ofReceipt(0, 3), Ferrytax.NONE);
        due.is("no refund", x.ofReceipt(0, 2), 0);
        x.stamp(0, 1);
        x.stamp(1, 1);
        x.pass(1);
        due.is("VOID the 2nd time", x.ofReceipt(0, 0), Ferrytax.VOID);
        due.is("no ferry when VOID", x.ofReceipt(0, 3), Ferrytax.NONE);
        due.is("another one its 1st time", x.ofReceipt(1, 0), Ferrytax.OPEN);
        due.is("no fine by that", x.ofTraveller(0, 1), 0);
        due.is("no refund by that", x.refundsAnew(0), 0);
        due.is("the shop still owes", x.debt(0), 20);
        Ferrytax paid = scene(100);
        paid.stamp(0, 0);
        paid.pass(2);
        paid.stamp(0, 1);
        paid.aboard(0, 1);
        paid.pass(1);
        due.is("PAID the 2nd time", paid.ofReceipt(0, 2), 9);
        Ferrytax back = scene(100);
        back.stamp(0, 0);
        back.pass(2);
        due.is("OPEN again, it can go back", back.giveBack(0), 110);
    }

    private static void stampsForTwoFerriesOfOneHour() {
        for (int taken = 0; taken < 2; taken++) {
            Ferrytax x = new Ferrytax();
            x.buy(0, 0, 0, 100);
            x.buy(0, 0, 0, 200);
            x.ferry(2, 1);
            x.ferry(2, 1);
            x.seat(0, 0);
            x.seat(0, 1);
            x.stamp(0, 0);
            x.stamp(1, 1);
            x.aboard(0, taken);
            x.pass(2);
            due.is("the one taken", x.ofReceipt(taken, 0), Ferrytax.PAID);
            due.is("the one missed", x.ofReceipt(1 - taken, 0), Ferrytax.OPEN);
            due.is("missed", x.ofTraveller(0, 2), 1);
            due.is("refunds", x.refundsAnew(0), taken == 0 ? 9 : 18);
        }
    }

    private static void seatGivenBack() {
        Ferrytax x = scene(100, 200, 300, 400);
        x.buy(0, 1, 0, 100);
        x.seat(1, 0);
        x.stamp(0, 0);
        x.stamp(1, 0);
        x.stamp(2, 1);
        x.stamp(4, 0);
        due.is("OPEN again by that", x.leaveSeat(0, 0), 2);
        due.is("first", x.ofReceipt(0, 0), Ferrytax.OPEN);
        due.is("its ferry", x.ofReceipt(0, 3), Ferrytax.NONE);
        due.is("second", x.ofReceipt(1, 0), Ferrytax.OPEN);
        due.is("for another ferry", x.ofReceipt(2, 0), Ferrytax.STAMPED);
        due.is("never stamped", x.ofReceipt(3, 0), Ferrytax.OPEN);
        due.is("of another traveller", x.ofReceipt(4, 0), Ferrytax.STAMPED);
        x.seat(0, 0);
        x.aboard(0, 0);
        x.pass(2);
        due.is("the old stamp holds no more", x.ofReceipt(0, 0), Ferrytax.OPEN);
        due.is("no refund by it", x.refundsAnew(0), 0);
    }

    private static void seatGivenBackDoesNotCount() {
        Ferrytax x = scene(100);
        for (int time = 0; time < 3; time++) {
            x.stamp(0, 0);
            due.is("OPEN again", x.leaveSeat(0, 0), 1);
            x.seat(0, 0);
        }
        x.stamp(0, 0);
        x.pass(2);
        due.is("1st time that counts", x.ofReceipt(0, 0), Ferrytax.OPEN);
        x.stamp(0, 1);
        x.leaveSeat(0, 1);
        due.is("still OPEN", x.ofReceipt(0, 0), Ferrytax.OPEN);
    }

    private static void refundsAnew() {
        Ferrytax x = scene(3000, 4000, 5000);
        due.is("none at first", x.refundsAnew(0), 0);
        x.stamp(0, 0);
        x.stamp(1, 1);
        x.aboard(0, 0);
        due.is("none ahead of the sailing", x.refundsAnew(0), 0);
        x.rate(0, 50);
        x.pass(2);
        due.is("of the first sailing", x.refundsAnew(0), 270);
        due.is("asked twice", x.refundsAnew(0), 270);
        x.comeBack(0);
        x.stamp(2, 1);
        x.aboard(0, 1);
        x.pass(1);
        due.is("of both sailings", x.refundsAnew(0), 770);
        due.is("as they were told", x.ofTraveller(0, 0), 770);
        due.is("none of another", x.refundsAnew(1), 0);
        due.noSuch("traveller -1", Ferrytax::new, y -> y.refundsAnew(-1));
        due.noSuch("traveller 10", Ferrytax::new, y -> y.refundsAnew(10));
    }

    /** Traveller 0 has receipts of shop 0 at these prices and seats on ferry 0 (at 2) and ferry 1 (at 3). */
    private static Ferrytax scene(int... prices) {
        Ferrytax x = new Ferrytax();
        for (int price : prices) {
            x.buy(0, 0, 0, price);
        }
        x.ferry(2, 2);
        x.ferry(3, 2);
        x.seat(0, 0);
        x.seat(0, 1);
        return x;
    }

    private static Ferrytax stamped() {
        Ferrytax x = scene(100);
        x.stamp(0, 0);
        return x;
    }

    private static void sailWithAll(Ferrytax x, int receipts) {
        for (int receipt = receipts - 1; receipt >= 0; receipt--) {
            x.stamp(receipt, 0);
        }
        x.aboard(0, 0);
        x.pass(2);
    }
}
