import java.util.function.Supplier;

/** Each sentence on shops, kinds, rates, receipts, goods that go back, codes and debts that names a boundary. */
public final class ReceiptBoundariesTest {
    private static final Due due = new Due();

    public static void main(String[] args) {
        noReceiptsAtFirst();
        kindsAndRates();
        tenPercentAtFirst();
        taxRoundedDown();
        numbersOfAPurchase();
        prices();
        atMostSixtyReceipts();
        buyingTakesOneOnTheIsland();
        backUntilTwoHundredAndFortyHours();
        hoursCountFromTheBuying();
        backOnlyIfOpen();
        backTakesOneOnTheIsland();
        debtOfEachShop();
        debtGoesWithTheGoods();
        whatOfAReceipt();
        refundOnlyIfPaid();
        placesOfACode();
        digitsTheOtherWayRound();
        lastReceiptOfSixty();
        due.end();
    }

    // "No receipts, no ferries; all travellers are on the island."
    private static void noReceiptsAtFirst() {
        due.noSuch("receipt 0 of a new object, giveBack", Ferrytax::new, y -> y.giveBack(0));
        due.noSuch("receipt 0 of a new object, check", Ferrytax::new, y -> y.check(0, true));
        due.noSuch("receipt 0 of a new object, ofReceipt", Ferrytax::new, y -> y.ofReceipt(0, 0));
        due.noSuch("receipt 0 of a new object, code", Ferrytax::new, y -> y.code(0, 0));
        due.noSuch("receipt 0 of a new object, stamp", FerryBoundariesTest::twoFerries, y -> y.stamp(0, 0));
        for (int traveller = 0; traveller < 10; traveller++) {
            int t = traveller;
            due.is("a purchase at once", new Ferrytax().buy(0, t, 0, 1), 0);
            due.notNow("comeBack at once", Ferrytax::new, y -> y.comeBack(t));
        }
    }

    // "kind: 0 to 3", "rate: 0 to 50"
    private static void kindsAndRates() {
        due.numbers("rate of kind", Ferrytax::new, 4, (y, n) -> y.rate(n, 10));
        for (int kind = 0; kind < 4; kind++) {
            int k = kind;
            due.values("rate", Ferrytax::new, 0, 50, (y, n) -> y.rate(k, n));
        }
        Ferrytax x = new Ferrytax();
        int before = 10;
        for (int rate = 0; rate <= 50; rate++) {
            due.is("rate before " + rate, x.rate(2, rate), before);
            before = rate;
        }
        due.is("the last rate", x.rate(2, 0), 50);
        due.is("the rate of the kind below", x.rate(1, 0), 10);
        due.is("the rate of the kind above", x.rate(3, 0), 10);
    }

    // "each with a rate in percent, 10 at first"
    private static void tenPercentAtFirst() {
        Ferrytax x = new Ferrytax();
        for (int kind = 0; kind < 4; kind++) {
            due.is("tax of 1000 at first", x.ofReceipt(x.buy(0, 0, kind, 1000), 1), 100);
        }
    }

    // "its tax is the price times the rate of then, divided by 100, rounded down"
    private static void taxRoundedDown() {
        taxIs(9, 10, 0);
        taxIs(10, 10, 1);
        taxIs(19, 10, 1);
        taxIs(20, 10, 2);
        taxIs(1, 50, 0);
        taxIs(2, 50, 1);
        taxIs(3, 50, 1);
        taxIs(99, 1, 0);
        taxIs(100, 1, 1);
        taxIs(199, 1, 1);
        taxIs(51, 49, 24);
        taxIs(9999, 50, 4999);
        taxIs(10000, 50, 5000);
        taxIs(10000, 1, 100);
        taxIs(10000, 0, 0);
    }

    private static void taxIs(int price, int rate, int tax) {
        Ferrytax x = new Ferrytax();
        x.rate(1, rate);
        x.buy(1, 1, 1, price);
        x.rate(1, 50 - rate);
        due.is("tax of " + price + " at " + rate, x.ofReceipt(0, 1), tax);
        due.is("debt by " + price + " at " + rate, x.debt(1), tax);
        due.is("price and tax of " + price + " at " + rate, x.giveBack(0), price + tax);
    }

    // "shop: 0 to 4", "traveller: 0 to 9", "kind: 0 to 3"
    private static void numbersOfAPurchase() {
        due.numbers("buy in shop", Ferrytax::new, 5, (y, n) -> y.buy(n, 0, 0, 1));
        due.numbers("buy by traveller", Ferrytax::new, 10, (y, n) -> y.buy(0, n, 0, 1));
        due.numbers("buy of kind", Ferrytax::new, 4, (y, n) -> y.buy(0, 0, n, 1));
    }

    // "price: 1 to 10000"
    private static void prices() {
        due.values("price", Ferrytax::new, 1, 10000, (y, n) -> y.buy(4, 9, 3, n));
    }

    // "Receipts are numbered from 0, at most 60."
    private static void atMostSixtyReceipts() {
        due.is("the 60th", receipts(59).buy(4, 9, 3, 10000), 59);
        due.notNow("the 61st", () -> receipts(60), y -> y.buy(4, 9, 3, 10000));
        due.notNow("the 61st, though one went back", () -> {
            Ferrytax y = receipts(60);
            y.giveBack(59);
            return y;
        }, y -> y.buy(0, 0, 0, 1));
        due.numbers("of one receipt", () -> receipts(1), 1, (y, n) -> y.ofReceipt(n, 0));
        due.numbers("of 60 receipts", () -> receipts(60), 60, (y, n) -> y.ofReceipt(n, 0));
        due.numbers("giveBack of 60", () -> receipts(60), 60, Ferrytax::giveBack);
        due.numbers("code of 60", () -> receipts(60), 60, (y, n) -> y.code(n, 0));
    }

    // "Throws IllegalStateException if the traveller has left"
    private static void buyingTakesOneOnTheIsland() {
        due.is("buying aboard, in the last hour", FerryBoundariesTest.nineAboard().buy(0, 9, 0, 1), 0);
        due.notNow("buying when left", FerryBoundariesTest::nineGone, y -> y.buy(0, 9, 0, 1));
        due.is("another buys", FerryBoundariesTest.nineGone().buy(0, 8, 0, 1), 0);
        Ferrytax x = FerryBoundariesTest.nineGone();
        x.comeBack(9);
        due.is("buying when back", x.buy(0, 9, 0, 1), 0);
    }

    // "It can go back to its shop until 240 hours behind it, these included"
    private static void backUntilTwoHundredAndFortyHours() {
        for (int bought : new int[] {0, 1, 59, 100, 9759}) {
            due.until("giveBack, bought at " + bought, bought + 240, hour -> {
                Ferrytax y = Due.after(new Ferrytax(), bought);
                y.buy(4, 9, 0, 100);
                return Due.after(y, hour - bought);
            }, y -> y.giveBack(0));
        }
        Ferrytax last = Due.after(new Ferrytax(), 9760);
        last.buy(4, 9, 0, 100);
        due.is("giveBack in the last hour of all", Due.after(last, 240).giveBack(0), 110);
    }

    // The 240 hours are those behind the receipt, whatever became of its stamps.
    private static void hoursCountFromTheBuying() {
        due.until("giveBack, OPEN again", 240, hour -> {
            Ferrytax y = new Ferrytax();
            y.buy(0, 0, 0, 100);
            y.ferry(239, 1);
            y.seat(0, 0);
            Due.after(y, 238);
            y.stamp(0, 0);
            return Due.after(y, hour - 238);
        }, y -> y.giveBack(0));
    }

    // "if it is OPEN"
    private static void backOnlyIfOpen() {
        for (int state = 0; state < 5; state++) {
            int s = state;
            due.is("state of the scene", StampBoundariesTest.inState(s).ofReceipt(0, 0), s);
            if (s != Ferrytax.OPEN) {
                due.notNow("giveBack in state " + s, () -> StampBoundariesTest.inState(s), y -> y.giveBack(0));
            }
        }
        Ferrytax x = StampBoundariesTest.inState(Ferrytax.OPEN);
        due.is("giveBack in state OPEN", x.giveBack(0), 1100);
        due.is("BACK then", x.ofReceipt(0, 0), Ferrytax.BACK);
    }

    // "Throws IllegalStateException if .. the traveller has left"
    private static void backTakesOneOnTheIsland() {
        Supplier<Ferrytax> aboard = () -> {
            Ferrytax y = FerryBoundariesTest.nineAboard();
            y.buy(0, 9, 0, 100);
            y.buy(0, 8, 0, 100);
            return y;
        };
        Supplier<Ferrytax> gone = () -> Due.after(aboard.get(), 1);
        due.is("giveBack aboard, in the last hour", aboard.get().giveBack(0), 110);
        due.notNow("giveBack when left", gone, y -> y.giveBack(0));
        due.is("another gives back", gone.get().giveBack(1), 110);
        Ferrytax x = gone.get();
        x.comeBack(9);
        due.is("giveBack when back", x.giveBack(0), 110);
    }

    // "shop: 0 to 4"
    private static void debtOfEachShop() {
        due.numbers("debt of shop", Ferrytax::new, 5, Ferrytax::debt);
        Ferrytax x = new Ferrytax();
        for (int shop = 0; shop < 5; shop++) {
            x.buy(shop, 0, 0, 100 + 100 * shop);
        }
        for (int shop = 0; shop < 5; shop++) {
            due.is("debt of shop " + shop, x.debt(shop), 10 + 10 * shop);
        }
        Ferrytax most = new Ferrytax();
        most.rate(0, 50);
        for (int receipt = 0; receipt < 60; receipt++) {
            most.buy(4, 0, 0, 10000);
        }
        due.is("the largest debt", most.debt(4), 300000);
    }

    // "it is BACK then, and the shop owes its tax no more"
    private static void debtGoesWithTheGoods() {
        int[] debts = {100, 100, 100, 100, 0};
        for (int state = 0; state < 5; state++) {
            due.is("debt in state " + state, StampBoundariesTest.inState(state).debt(0), debts[state]);
        }
        Ferrytax x = new Ferrytax();
        x.buy(1, 0, 0, 100);
        x.buy(2, 0, 0, 200);
        x.buy(2, 0, 0, 400);
        x.giveBack(1);
        due.is("debt of another shop", x.debt(1), 10);
        due.is("debt by what stays", x.debt(2), 40);
    }

    // "what: 0 OPEN to BACK; 1 its tax; 2 its refund, ..; 3 the ferry .."
    private static void whatOfAReceipt() {
        due.values("what of a receipt", () -> receipts(1), 0, 3, (y, n) -> y.ofReceipt(0, n));
    }

    // "its refund, 0 if it is not PAID", "the ferry for which it is STAMPED, or PAID, NONE otherwise"
    private static void refundOnlyIfPaid() {
        int[] refunds = {0, 0, 90, 0, 0};
        int[] ferries = {Ferrytax.NONE, 1, 1, Ferrytax.NONE, Ferrytax.NONE};
        for (int state = 0; state < 5; state++) {
            Ferrytax x = StampBoundariesTest.inState(state);
            due.is("tax in state " + state, x.ofReceipt(0, 1), 100);
            due.is("refund in state " + state, x.ofReceipt(0, 2), refunds[state]);
            due.is("ferry in state " + state, x.ofReceipt(0, 3), ferries[state]);
        }
    }

    // "place: from 0", "a 0 behind the last one"
    private static void placesOfACode() {
        due.noSuch("place -1", () -> receipts(1), y -> y.code(0, -1));
        due.noSuch("the lowest int as place", () -> receipts(1), y -> y.code(0, Integer.MIN_VALUE));
        due.code(receipts(1), 0, "R0-01");
    }

    // "The code of a receipt is "R", its number, "-", then its tax, with its digits the other way round."
    private static void digitsTheOtherWayRound() {
        int[] taxes = {0, 1, 9, 10, 11, 12, 99, 100, 120, 123, 999, 1000, 4321, 5000};
        String[] ends = {"0", "1", "9", "01", "11", "21", "99", "001", "021", "321", "999", "0001", "1234", "0005"};
        Ferrytax x = new Ferrytax();
        x.rate(0, 50);
        for (int tax : taxes) {
            x.buy(0, 0, 0, Math.max(1, tax * 2));
        }
        for (int receipt = 0; receipt < taxes.length; receipt++) {
            due.is("tax of the scene", x.ofReceipt(receipt, 1), taxes[receipt]);
            due.code(x, receipt, "R" + receipt + "-" + ends[receipt]);
        }
        for (int state = 0; state < 5; state++) {
            due.code(StampBoundariesTest.inState(state), 0, "R0-001");
        }
    }

    // The last of 60 receipts does all that the first one does.
    private static void lastReceiptOfSixty() {
        Supplier<Ferrytax> full = () -> {
            Ferrytax y = receipts(59);
            y.buy(4, 9, 3, 10000);
            y.ferry(1, 1);
            y.seat(9, 0);
            y.stamp(59, 0);
            return y;
        };
        due.code(full.get(), 59, "R59-0001");
        due.is("its debt", full.get().debt(4), 1000);
        due.is("its seat given back", full.get().leaveSeat(9, 0), 1);
        due.is("its check", full.get().check(59, false), Ferrytax.VOID);
        due.is("it came to nothing", Due.after(full.get(), 1).ofReceipt(59, 0), Ferrytax.OPEN);
        Ferrytax x = full.get();
        x.aboard(9, 0);
        x.pass(1);
        due.is("its refund", x.ofReceipt(59, 2), 500);
        due.is("its refund anew", x.refundsAnew(9), 500);
        due.is("the one ahead of it", x.ofReceipt(58, 0), Ferrytax.OPEN);
    }

    private static Ferrytax receipts(int count) {
        Ferrytax x = new Ferrytax();
        for (int receipt = 0; receipt < count; receipt++) {
            x.buy(0, 0, 0, 100);
        }
        return x;
    }
}
