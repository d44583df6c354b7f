import java.util.function.Supplier;

/** "If several exceptions apply, the one that is documented first is thrown.", for each two of them in each method. */
public final class ExceptionOrderTest {
    private static final Due due = new Due();

    public static void main(String[] args) {
        rate();
        buyWithAWrongNumber();
        buyForAWrongPrice();
        ferry();
        seat();
        leaveSeat();
        aboard();
        stamp();
        pass();
        ofReceipt();
        ofTraveller();
        code();
        due.end();
    }

    private static void rate() {
        for (int kind : new int[] {-1, 4}) {
            for (int rate : new int[] {-1, 51}) {
                due.noSuch("rate(" + kind + ", " + rate + ")", Ferrytax::new, y -> y.rate(kind, rate));
            }
        }
    }

    private static void buyWithAWrongNumber() {
        for (int price : new int[] {0, 1, 10001}) {
            for (int wrong : new int[] {-1, 10}) {
                Supplier<Ferrytax> gone = FerryBoundariesTest::nineGone;
                due.noSuch("no such shop, 9 has left, price " + price, gone, y -> y.buy(wrong, 9, 0, price));
                due.noSuch("no such kind, 9 has left, price " + price, gone, y -> y.buy(0, 9, wrong, price));
                Supplier<Ferrytax> full = ExceptionOrderTest::sixtyReceipts;
                due.noSuch("no such shop, 60 receipts, price " + price, full, y -> y.buy(wrong, 9, 0, price));
                due.noSuch("no such traveller, 60 receipts, price " + price, full, y -> y.buy(0, wrong, 0, price));
                due.noSuch("no such kind, 60 receipts, price " + price, full, y -> y.buy(0, 9, wrong, price));
            }
        }
    }

    private static void buyForAWrongPrice() {
        for (int price : new int[] {0, 10001}) {
            due.outOfRange("9 has left, price " + price, FerryBoundariesTest::nineGone, y -> y.buy(0, 9, 0, price));
            due.outOfRange("60 receipts, price " + price, ExceptionOrderTest::sixtyReceipts, y -> y.buy(0, 9, 0, price));
        }
    }

    private static void ferry() {
        Supplier<Ferrytax> full = () -> {
            Ferrytax y = new Ferrytax();
            for (int ferry = 0; ferry < 20; ferry++) {
                y.ferry(5, 1);
            }
            return Due.after(y, 7);
        };
        for (int hour : new int[] {6, 7, 10001}) {
            due.outOfRange("20 ferries, hour " + hour, full, y -> y.ferry(hour, 1));
        }
        for (int seats : new int[] {0, 11}) {
            due.outOfRange("20 ferries, seats " + seats, full, y -> y.ferry(8, seats));
        }
        due.notNow("20 ferries, all in range", full, y -> y.ferry(8, 1));
    }

    private static void seat() {
        due.noSuch("no such traveller, sailed", FerryBoundariesTest::nineGone, y -> y.seat(10, 0));
        due.noSuch("no such traveller, no seat left", ExceptionOrderTest::fullFerry, y -> y.seat(10, 0));
        due.noSuch("no such traveller below, no seat left", ExceptionOrderTest::fullFerry, y -> y.seat(-1, 0));
        due.noSuch("no such ferry, 9 has left", FerryBoundariesTest::nineGone, y -> y.seat(9, 1));
        due.noSuch("no such ferry below, 9 has left", FerryBoundariesTest::nineGone, y -> y.seat(9, -1));
    }

    private static void leaveSeat() {
        due.noSuch("no such traveller, sailed", FerryBoundariesTest::nineGone, y -> y.leaveSeat(10, 0));
        due.noSuch("no such traveller below, sailed", FerryBoundariesTest::nineGone, y -> y.leaveSeat(-1, 0));
        due.noSuch("no such ferry, no seat", ExceptionOrderTest::fullFerry, y -> y.leaveSeat(9, 1));
        due.noSuch("no such ferry below, no seat", ExceptionOrderTest::fullFerry, y -> y.leaveSeat(9, -1));
    }

    private static void aboard() {
        due.noSuch("no such traveller, too early", ExceptionOrderTest::fullFerry, y -> y.aboard(10, 0));
        due.noSuch("no such traveller below, too early", ExceptionOrderTest::fullFerry, y -> y.aboard(-1, 0));
        due.noSuch("no such traveller, too late", FerryBoundariesTest::nineGone, y -> y.aboard(10, 0));
        due.noSuch("no such ferry, 9 has left", FerryBoundariesTest::nineGone, y -> y.aboard(9, 1));
        due.noSuch("no such ferry below, 9 has left", FerryBoundariesTest::nineGone, y -> y.aboard(9, -1));
        due.noSuch("no such ferry, aboard of some", FerryBoundariesTest::nineAboard, y -> y.aboard(9, 1));
    }

    private static void stamp() {
        due.noSuch("no such receipt, too early", ExceptionOrderTest::fullFerry, y -> y.stamp(0, 0));
        due.noSuch("no such receipt below, too early", ExceptionOrderTest::fullFerry, y -> y.stamp(-1, 0));
        due.noSuch("no such receipt, too late", FerryBoundariesTest::nineGone, y -> y.stamp(0, 0));
        for (int state = 0; state < 5; state++) {
            int s = state;
            due.noSuch("no such ferry, state " + s, () -> StampBoundariesTest.inState(s), y -> y.stamp(0, 2));
            due.noSuch("no such ferry below, state " + s, () -> StampBoundariesTest.inState(s), y -> y.stamp(0, -1));
        }
        due.noSuch("no such ferry, price below 50", () -> {
            Ferrytax y = fullFerry();
            y.buy(0, 9, 0, 49);
            return y;
        }, y -> y.stamp(0, 1));
    }

    private static void pass() {
        Supplier<Ferrytax> late = () -> Due.after(new Ferrytax(), 9999);
        due.outOfRange("101 hours at 9999", late, y -> y.pass(101));
        due.outOfRange("the most hours at 9999", late, y -> y.pass(Integer.MAX_VALUE));
        due.outOfRange("0 hours at 9999", late, y -> y.pass(0));
        due.notNow("100 hours at 9999", late, y -> y.pass(100));
        Supplier<Ferrytax> last = () -> Due.after(new Ferrytax(), 10000);
        due.outOfRange("0 hours at 10000", last, y -> y.pass(0));
        due.outOfRange("101 hours at 10000", last, y -> y.pass(101));
    }

    private static void ofReceipt() {
        for (int what : new int[] {-1, 4}) {
            due.noSuch("ofReceipt(0, " + what + ") of none", Ferrytax::new, y -> y.ofReceipt(0, what));
            due.noSuch("ofReceipt(60, " + what + ")", ExceptionOrderTest::sixtyReceipts, y -> y.ofReceipt(60, what));
            due.noSuch("ofReceipt(-1, " + what + ")", ExceptionOrderTest::sixtyReceipts, y -> y.ofReceipt(-1, what));
        }
    }

    private static void ofTraveller() {
        for (int what : new int[] {-1, 4}) {
            due.noSuch("ofTraveller(10, " + what + ")", Ferrytax::new, y -> y.ofTraveller(10, what));
            due.noSuch("ofTraveller(-1, " + what + ")", Ferrytax::new, y -> y.ofTraveller(-1, what));
        }
    }

    private static void code() {
        due.noSuch("code(0, -1) of none", Ferrytax::new, y -> y.code(0, -1));
        due.noSuch("code(60, -1)", ExceptionOrderTest::sixtyReceipts, y -> y.code(60, -1));
        due.noSuch("code(60, far behind)", ExceptionOrderTest::sixtyReceipts, y -> y.code(60, Integer.MAX_VALUE));
    }

    private static Ferrytax sixtyReceipts() {
        Ferrytax x = new Ferrytax();
        for (int receipt = 0; receipt < 60; receipt++) {
            x.buy(0, 9, 0, 100);
        }
        return x;
    }

    /** The only seat of ferry 0, which sails at 20, is traveller 0's. */
    private static Ferrytax fullFerry() {
        Ferrytax x = new Ferrytax();
        x.ferry(20, 1);
        x.seat(0, 0);
        return x;
    }
}
