import java.util.function.BiConsumer;
import java.util.function.Supplier;

/** Promises 1 to 4, 13, 14 and 17: a new object, rates, receipts, their codes and the debts of shops. */
public final class ReceiptsTest {
    private static final Due due = new Due();

    public static void main(String[] args) {
        constants();
        newObject();
        newObjectBesideAnother();
        rate();
        buy();
        buyOfOneWhoLeft();
        buyUpToTheLimit();
        giveBack();
        giveBackInTime();
        giveBackRefused();
        ofReceipt();
        code();
        debt();
        numbersFarOff();
        due.end();
    }

    private static void constants() {
        due.is("NONE", Ferrytax.NONE, -1);
        due.is("OPEN", Ferrytax.OPEN, 0);
        due.is("STAMPED", Ferrytax.STAMPED, 1);
        due.is("PAID", Ferrytax.PAID, 2);
        due.is("VOID", Ferrytax.VOID, 3);
        due.is("BACK", Ferrytax.BACK, 4);
    }

    private static void newObject() {
        Ferrytax x = new Ferrytax();
        for (int traveller = 0; traveller < 10; traveller++) {
            for (int what = 0; what < 4; what++) {
                due.is("ofTraveller of a new object", x.ofTraveller(traveller, what), 0);
            }
            due.is("refundsAnew of a new object", x.refundsAnew(traveller), 0);
        }
        for (int shop = 0; shop < 5; shop++) {
            due.is("debt of a new object", x.debt(shop), 0);
        }
        due.is("the first ferry", x.ferry(1, 1), 0);
        due.is("the first receipt", x.buy(0, 0, 0, 1), 0);
        due.is("the first hour", x.pass(1), 1);
        due.noSuch("a receipt of a new object", Ferrytax::new, y -> y.ofReceipt(0, 0));
        due.noSuch("a ferry of a new object", Ferrytax::new, y -> y.seat(0, 0));
    }

    private static void newObjectBesideAnother() {
        for (BiConsumer<Ferrytax, Probes.Answers> probe : Probes.ALL) {
            Ferrytax used = stampedByTwo();
            Ferrytax made = new Ferrytax();
            used.rate(0, 50);
            used.pass(1);
            used.check(0, false);
            if (!Probes.answers(probe, made).equals(Probes.answers(probe, new Ferrytax()))) {
                due.report("an object made beside another is not new");
            }
            due.is("the other's rate", used.rate(0, 50), 50);
            due.is("the other's receipt", used.ofReceipt(0, 0), Ferrytax.VOID);
            due.is("the other's fine", used.ofTraveller(2, 1), 50);
            due.is("the other's seat", used.leaveSeat(2, 1), 0);
            due.is("the other's hour", used.pass(1), 2);
        }
    }

    private static void rate() {
        Ferrytax x = new Ferrytax();
        for (int kind = 0; kind < 4; kind++) {
            due.is("rate at first", x.rate(kind, 20 + kind), 10);
        }
        for (int kind = 0; kind < 4; kind++) {
            due.is("rate before", x.rate(kind, 0), 20 + kind);
        }
        due.is("rate 0 before", x.rate(0, 50), 0);
        due.is("rate 50 before", x.rate(0, 50), 50);
        due.noSuch("rate of kind -1", Ferrytax::new, y -> y.rate(-1, 5));
        due.noSuch("rate of kind 4", Ferrytax::new, y -> y.rate(4, 5));
        due.noSuch("rate of kind 4, wrong rate", Ferrytax::new, y -> y.rate(4, 51));
        due.outOfRange("rate -1", Ferrytax::new, y -> y.rate(3, -1));
        due.outOfRange("rate 51", Ferrytax::new, y -> y.rate(0, 51));
        due.outOfRange("highest int as rate", Ferrytax::new, y -> y.rate(0, Integer.MAX_VALUE));
    }

    private static void buy() {
        Ferrytax x = new Ferrytax();
        x.rate(3, 33);
        due.is("first number", x.buy(0, 0, 0, 1), 0);
        due.is("second number", x.buy(4, 9, 3, 10000), 1);
        due.is("third number", x.buy(4, 9, 3, 199), 2);
        due.is("tax of 1 at 10", x.ofReceipt(0, 1), 0);
        due.is("tax of 10000 at 33", x.ofReceipt(1, 1), 3300);
        due.is("tax of 199 at 33, rounded down", x.ofReceipt(2, 1), 65);
        x.rate(3, 50);
        due.is("tax at the rate of then", x.ofReceipt(2, 1), 65);
        x.rate(3, 0);
        x.buy(0, 0, 3, 10000);
        due.is("tax at the rate 0", x.ofReceipt(3, 1), 0);
        due.noSuch("buy in shop -1", Ferrytax::new, y -> y.buy(-1, 0, 0, 1));
        due.noSuch("buy in shop 5", Ferrytax::new, y -> y.buy(5, 0, 0, 1));
        due.noSuch("buy by traveller -1", Ferrytax::new, y -> y.buy(0, -1, 0, 1));
        due.noSuch("buy by traveller 10", Ferrytax::new, y -> y.buy(0, 10, 0, 1));
        due.noSuch("buy of kind -1", Ferrytax::new, y -> y.buy(0, 0, -1, 1));
        due.noSuch("buy of kind 4", Ferrytax::new, y -> y.buy(0, 0, 4, 1));
        due.noSuch("buy of kind 4, wrong price", Ferrytax::new, y -> y.buy(0, 0, 4, 0));
        due.outOfRange("price 0", Ferrytax::new, y -> y.buy(0, 0, 0, 0));
        due.outOfRange("price 10001", Ferrytax::new, y -> y.buy(0, 0, 0, 10001));
    }

    private static void buyOfOneWhoLeft() {
        due.notNow("buy of one who left", ReceiptsTest::zeroHasLeft, y -> y.buy(0, 0, 0, 1));
        due.noSuch("buy of one who left, no such shop", ReceiptsTest::zeroHasLeft, y -> y.buy(5, 0, 0, 1));
        due.outOfRange("buy of one who left, wrong price", ReceiptsTest::zeroHasLeft, y -> y.buy(0, 0, 0, 0));
        Ferrytax x = zeroHasLeft();
        x.comeBack(0);
        due.is("buy of one who came back", x.buy(0, 0, 0, 1), 1);
    }

    private static void buyUpToTheLimit() {
        Ferrytax x = new Ferrytax();
        for (int number = 0; number < 60; number++) {
            due.is("number", x.buy(number % 5, number % 10, 0, 100), number);
        }
        due.is("tax of the last", x.ofReceipt(59, 1), 10);
        Supplier<Ferrytax> full = ReceiptsTest::sixtyReceipts;
        due.notNow("receipt 60", full, y -> y.buy(0, 0, 0, 100));
        due.outOfRange("receipt 60, wrong price", full, y -> y.buy(0, 0, 0, 10001));
        due.noSuch("asking receipt 60", full, y -> y.ofReceipt(60, 0));
        x.giveBack(5);
        try {
            x.buy(0, 0, 0, 100);
            due.report("a receipt that is BACK made room for another");
        } catch (IllegalStateException e) {
            due.is("state of 5", x.ofReceipt(5, 0), Ferrytax.BACK);
        }
    }

    private static void giveBack() {
        Ferrytax x = new Ferrytax();
        x.buy(2, 1, 0, 199);
        x.buy(2, 1, 0, 200);
        due.is("giveBack", x.giveBack(0), 199 + 19);
        due.is("state then", x.ofReceipt(0, 0), Ferrytax.BACK);
        due.is("tax still told", x.ofReceipt(0, 1), 19);
        due.is("debt then", x.debt(2), 20);
        due.is("the other one", x.ofReceipt(1, 0), Ferrytax.OPEN);
    }

    private static void giveBackInTime() {
        Ferrytax x = new Ferrytax();
        x.pass(7);
        x.buy(0, 0, 0, 100);
        x.pass(100);
        x.pass(100);
        x.pass(40);
        due.is("giveBack 240 hours behind", x.giveBack(0), 110);
        Supplier<Ferrytax> late = () -> {
            Ferrytax y = new Ferrytax();
            y.pass(7);
            y.buy(0, 0, 0, 100);
            y.pass(100);
            y.pass(100);
            y.pass(41);
            return y;
        };
        due.notNow("giveBack 241 hours behind", late, y -> y.giveBack(0));
    }

    private static void giveBackRefused() {
        Supplier<Ferrytax> one = () -> {
            Ferrytax y = new Ferrytax();
            y.buy(0, 0, 0, 100);
            return y;
        };
        due.noSuch("giveBack of receipt -1", one, y -> y.giveBack(-1));
        due.noSuch("giveBack of receipt 1", one, y -> y.giveBack(1));
        due.notNow("giveBack twice", () -> {
            Ferrytax y = one.get();
            y.giveBack(0);
            return y;
        }, y -> y.giveBack(0));
        due.notNow("giveBack of a STAMPED one", ReceiptsTest::stampedByTwo, y -> y.giveBack(0));
        due.notNow("giveBack of one who left", ReceiptsTest::zeroHasLeft, y -> y.giveBack(0));
        Ferrytax x = zeroHasLeft();
        x.comeBack(0);
        due.is("giveBack of one who came back", x.giveBack(0), 110);
        due.notNow("giveBack of a VOID one", () -> {
            Ferrytax y = stampedByTwo();
            y.check(0, false);
            return y;
        }, y -> y.giveBack(0));
    }

    private static void ofReceipt() {
        Ferrytax x = stampedByTwo();
        due.is("state STAMPED", x.ofReceipt(0, 0), Ferrytax.STAMPED);
        due.is("tax", x.ofReceipt(0, 1), 10);
        due.is("refund while STAMPED", x.ofReceipt(0, 2), 0);
        due.is("ferry while STAMPED", x.ofReceipt(0, 3), 1);
        due.is("state OPEN", x.ofReceipt(1, 0), Ferrytax.OPEN);
        due.is("ferry while OPEN", x.ofReceipt(1, 3), Ferrytax.NONE);
        x.aboard(2, 1);
        x.pass(3);
        due.is("state PAID", x.ofReceipt(0, 0), Ferrytax.PAID);
        due.is("refund when PAID", x.ofReceipt(0, 2), 9);
        due.is("ferry when PAID", x.ofReceipt(0, 3), 1);
        due.is("no refund of the other", x.ofReceipt(1, 2), 0);
        Ferrytax back = new Ferrytax();
        back.buy(0, 0, 0, 100);
        back.giveBack(0);
        due.is("ferry when BACK", back.ofReceipt(0, 3), Ferrytax.NONE);
        due.is("refund when BACK", back.ofReceipt(0, 2), 0);
        due.noSuch("ofReceipt -1", ReceiptsTest::stampedByTwo, y -> y.ofReceipt(-1, 0));
        due.noSuch("ofReceipt 2", ReceiptsTest::stampedByTwo, y -> y.ofReceipt(2, 0));
        due.noSuch("ofReceipt 2, wrong what", ReceiptsTest::stampedByTwo, y -> y.ofReceipt(2, 4));
        due.outOfRange("what -1", ReceiptsTest::stampedByTwo, y -> y.ofReceipt(0, -1));
        due.outOfRange("what 4", ReceiptsTest::stampedByTwo, y -> y.ofReceipt(0, 4));
    }

    private static void code() {
        Ferrytax x = new Ferrytax();
        int[] prices = {1, 10, 123, 1234, 9876, 10000, 1000, 990, 20, 30, 1230, 5670};
        String[] codes = {
            "R0-0", "R1-1", "R2-21", "R3-321", "R4-789", "R5-0001", "R6-001", "R7-99", "R8-2", "R9-3", "R10-321",
            "R11-765"};
        for (int price : prices) {
            x.buy(0, 0, 0, price);
        }
        for (int receipt = 0; receipt < codes.length; receipt++) {
            due.code(x, receipt, codes[receipt]);
        }
        due.code(sixtyReceipts(), 59, "R59-01");
        due.noSuch("code of receipt -1", ReceiptsTest::stampedByTwo, y -> y.code(-1, 0));
        due.noSuch("code of receipt 2", ReceiptsTest::stampedByTwo, y -> y.code(2, 0));
        due.noSuch("place -1", ReceiptsTest::stampedByTwo, y -> y.code(0, -1));
        due.noSuch("lowest int as place", ReceiptsTest::stampedByTwo, y -> y.code(0, Integer.MIN_VALUE));
    }

    private static void debt() {
        Ferrytax x = stampedByTwo();
        due.is("debt with an OPEN and a STAMPED one", x.debt(3), 30);
        x.check(0, false);
        due.is("debt with a VOID one", x.debt(3), 30);
        x.giveBack(1);
        due.is("debt with a BACK one", x.debt(3), 10);
        due.is("debt of another shop", x.debt(2), 0);
        Ferrytax paid = stampedByTwo();
        paid.aboard(2, 1);
        paid.pass(3);
        due.is("debt with a PAID one", paid.debt(3), 30);
        due.noSuch("debt of shop -1", Ferrytax::new, y -> y.debt(-1));
        due.noSuch("debt of shop 5", Ferrytax::new, y -> y.debt(5));
    }

    private static void numbersFarOff() {
        int[] numbers = {11, 61, Integer.MAX_VALUE, -2, Integer.MIN_VALUE};
        for (int n : numbers) {
            due.noSuch("rate of kind " + n, Ferrytax::new, y -> y.rate(n, 5));
            due.noSuch("buy in shop " + n, Ferrytax::new, y -> y.buy(n, 0, 0, 1));
            due.noSuch("buy by traveller " + n, Ferrytax::new, y -> y.buy(0, n, 0, 1));
            due.noSuch("buy of kind " + n, Ferrytax::new, y -> y.buy(0, 0, n, 1));
            int price = n < 0 ? n : Math.max(n, 20000);
            due.outOfRange("buy for " + price, Ferrytax::new, y -> y.buy(0, 0, 0, price));
            due.noSuch("giveBack of receipt " + n, ReceiptsTest::stampedByTwo, y -> y.giveBack(n));
            due.noSuch("ofReceipt " + n, ReceiptsTest::stampedByTwo, y -> y.ofReceipt(n, 0));
            due.outOfRange("what " + n, ReceiptsTest::stampedByTwo, y -> y.ofReceipt(0, n));
            due.noSuch("code of receipt " + n, ReceiptsTest::stampedByTwo, y -> y.code(n, 0));
            due.noSuch("debt of shop " + n, Ferrytax::new, y -> y.debt(n));
        }
    }

    /** Traveller 0 bought receipt 0 for 100 and has left with ferry 0 at hour 1. */
    private static Ferrytax zeroHasLeft() {
        Ferrytax x = new Ferrytax();
        x.buy(0, 0, 0, 100);
        x.ferry(1, 1);
        x.seat(0, 0);
        x.aboard(0, 0);
        x.pass(1);
        return x;
    }

    /** Traveller 2 has receipts 0 (STAMPED for ferry 1, which sails at 3) and 1 of shop 3, with taxes 10 and 20. */
    private static Ferrytax stampedByTwo() {
        Ferrytax x = new Ferrytax();
        x.buy(3, 2, 0, 100);
        x.buy(3, 2, 0, 200);
        x.ferry(2, 1);
        x.ferry(3, 2);
        x.seat(2, 1);
        x.stamp(0, 1);
        return x;
    }

    private static Ferrytax sixtyReceipts() {
        Ferrytax x = new Ferrytax();
        for (int number = 0; number < 60; number++) {
            x.buy(0, 0, 0, 100);
        }
        return x;
    }
}
