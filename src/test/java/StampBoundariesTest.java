import java.util.function.IntFunction;
import java.util.function.Supplier;

/** Each sentence on stamps, spot checks, refunds and refunds found again that names a boundary. */
public final class StampBoundariesTest {
    private static final Due due = new Due();

    public static void main(String[] args) {
        stampNumbers();
        stampOnlyIfOpen();
        stampOfAPriceOfFifty();
        stampWithASeatThere();
        stampInTheTwelveHoursAhead();
        stampAtHourZero();
        checkOnlyIfStamped();
        checkOfOneWhoLeft();
        fineOfFiftyEach();
        paidIfLeftWithIt();
        tenthRoundedUp();
        atMostFiveHundred();
        whatIsLeftThenNothing();
        boundGoesByNumbers();
        boundOfEachSailing();
        boundOfEachTraveller();
        openAgainThenVoid();
        nothingByLeavingWithAnother();
        voidBringsNoFine();
        seatBackDoesNotCount();
        seatBackForgetsNothing();
        seatBackOfThatTravellerAndFerry();
        refundsFoundAgain();
        sixtyReceiptsOnOneSailing();
        due.end();
    }

    // "Throws IndexOutOfBoundsException if there is no such receipt or ferry"
    private static void stampNumbers() {
        due.numbers("stamp of receipt", StampBoundariesTest::threeOpen, 3, (y, n) -> y.stamp(n, 1));
        due.numbers("stamp for ferry", StampBoundariesTest::threeOpen, 2, (y, n) -> y.stamp(0, n));
        Supplier<Ferrytax> stamped = () -> {
            Ferrytax y = threeOpen();
            for (int receipt = 0; receipt < 3; receipt++) {
                y.stamp(receipt, 1);
            }
            return y;
        };
        due.numbers("check of receipt", stamped, 3, (y, n) -> y.check(n, false));
        due.numbers("check of receipt, goods there", stamped, 3, (y, n) -> y.check(n, true));
    }

    // "An OPEN receipt .. can be stamped"
    private static void stampOnlyIfOpen() {
        for (int state = 0; state < 5; state++) {
            int s = state;
            Supplier<Ferrytax> scene = () -> {
                Ferrytax y = inState(s);
                if (s == Ferrytax.PAID) {
                    y.comeBack(0);
                }
                int next = y.ferry(5, 1);
                y.seat(0, next);
                return y;
            };
            if (s == Ferrytax.OPEN) {
                due.is("stamp in state OPEN", scene.get().stamp(0, 2), 100);
            } else {
                due.notNow("stamp in state " + s, scene, y -> y.stamp(0, 2));
            }
        }
        due.notNow("stamp for the ferry for which it is", () -> inState(Ferrytax.STAMPED), y -> y.stamp(0, 1));
    }

    // "of a price of 50 or more"
    private static void stampOfAPriceOfFifty() {
        for (int price : new int[] {50, 51, 10000}) {
            due.is("stamp of a price of " + price, seated(price).stamp(0, 0), price / 10);
        }
        due.notNow("stamp of a price of 49", () -> seated(49), y -> y.stamp(0, 0));
        due.notNow("stamp of a price of 1", () -> seated(1), y -> y.stamp(0, 0));
        Ferrytax free = new Ferrytax();
        free.rate(0, 0);
        free.buy(0, 0, 0, 50);
        free.ferry(1, 1);
        free.seat(0, 0);
        due.is("stamp without a tax", free.stamp(0, 0), 0);
        due.notNow("stamp of a price of 49 with a tax of 24", () -> {
            Ferrytax y = new Ferrytax();
            y.rate(0, 50);
            y.buy(0, 0, 0, 49);
            y.ferry(1, 1);
            y.seat(0, 0);
            return y;
        }, y -> y.stamp(0, 0));
    }

    // "for a ferry, on which its traveller has a seat"
    private static void stampWithASeatThere() {
        Supplier<Ferrytax> scene = () -> {
            Ferrytax y = threeOpen();
            y.leaveSeat(0, 0);
            y.buy(0, 1, 0, 1000);
            return y;
        };
        due.notNow("stamp when the seat is given back", scene, y -> y.stamp(0, 0));
        due.notNow("stamp of another's receipt", scene, y -> y.stamp(3, 1));
        due.is("stamp with a seat there", scene.get().stamp(0, 1), 100);
        Ferrytax aboard = threeOpen();
        aboard.aboard(0, 1);
        due.is("stamp aboard", aboard.stamp(0, 1), 100);
        due.is("stamp aboard of another", aboard.stamp(1, 0), 100);
    }

    // "from 12 hours before its sailing on, up to that, not included"
    private static void stampInTheTwelveHoursAhead() {
        for (int sails : new int[] {1, 12, 13, 14, 100, 10000}) {
            IntFunction<Ferrytax> at = hour -> stampable(sails, hour);
            if (sails > 12) {
                due.from("stamp, sails at " + sails, sails - 12, at, y -> y.stamp(0, 0));
            }
            due.until("stamp, sails at " + sails, sails - 1, at, y -> y.stamp(0, 0));
        }
    }

    // The 12 hours reach to hour 0 of a ferry at 12, and not of one at 13.
    private static void stampAtHourZero() {
        due.is("stamp at 0 for a ferry at 12", stampable(12, 0).stamp(0, 0), 100);
        due.notNow("stamp at 0 for a ferry at 13", () -> stampable(13, 0), y -> y.stamp(0, 0));
    }

    // "A spot check looks whether the goods of a receipt that is STAMPED are there"
    private static void checkOnlyIfStamped() {
        for (int state = 0; state < 5; state++) {
            int s = state;
            if (s == Ferrytax.STAMPED) {
                due.is("goods there", inState(s).check(0, true), Ferrytax.STAMPED);
                due.is("goods not there", inState(s).check(0, false), Ferrytax.VOID);
            } else {
                due.notNow("check in state " + s, () -> inState(s), y -> y.check(0, true));
                due.notNow("check in state " + s + ", not there", () -> inState(s), y -> y.check(0, false));
            }
        }
        due.until("check, sails at 5", 4, hour -> {
            Ferrytax y = stampable(5, 4);
            y.stamp(0, 0);
            return Due.after(y, hour - 4);
        }, y -> y.check(0, true));
    }

    // "Throws IllegalStateException if it is not STAMPED", and for nothing else, also when its traveller has left
    private static void checkOfOneWhoLeft() {
        Ferrytax x = threeOpen();
        x.stamp(0, 1);
        x.stamp(1, 1);
        x.aboard(0, 0);
        x.pass(1);
        due.is("has left", x.ofTraveller(0, 3), 1);
        due.is("goods there, its traveller has left", x.check(0, true), Ferrytax.STAMPED);
        due.is("goods not there, its traveller has left", x.check(1, false), Ferrytax.VOID);
        due.is("the fine of one who has left", x.ofTraveller(0, 1), 50);
    }

    // "if not, it is VOID, and the traveller owes a fine of 50"
    private static void fineOfFiftyEach() {
        Ferrytax x = threeOpen();
        for (int receipt = 0; receipt < 3; receipt++) {
            x.stamp(receipt, 1);
            x.check(receipt, true);
            due.is("no fine for goods that are there", x.ofTraveller(0, 1), 50 * receipt);
            x.check(receipt, false);
            due.is("fines", x.ofTraveller(0, 1), 50 * receipt + 50);
        }
        due.is("no fine of another", x.ofTraveller(1, 1), 0);
        due.is("the taxes are owed still", x.debt(0), 300);
    }

    // "those of a traveller who has left with it are PAID", "Those of others are OPEN again"
    private static void paidIfLeftWithIt() {
        Ferrytax x = threeOpen();
        x.buy(0, 1, 0, 1000);
        x.seat(1, 1);
        x.stamp(0, 0);
        x.stamp(1, 1);
        x.stamp(3, 1);
        x.aboard(0, 1);
        x.pass(1);
        due.is("for a ferry an hour ahead", x.ofReceipt(0, 0), Ferrytax.OPEN);
        due.is("STAMPED until its hour", x.ofReceipt(1, 0), Ferrytax.STAMPED);
        x.pass(1);
        due.is("PAID at its hour", x.ofReceipt(1, 0), Ferrytax.PAID);
        due.is("never stamped", x.ofReceipt(2, 0), Ferrytax.OPEN);
        due.is("of one who is there", x.ofReceipt(3, 0), Ferrytax.OPEN);
        due.is("refunds", x.ofTraveller(0, 0), 90);
        due.is("refunds of one who is there", x.ofTraveller(1, 0), 0);
    }

    // "the refund is the tax, less a tenth of it, that tenth rounded up"
    private static void tenthRoundedUp() {
        int[] taxes = {0, 1, 2, 9, 10, 11, 19, 20, 21, 99, 100, 101, 109, 110, 111};
        int[] refunds = {0, 0, 1, 8, 9, 9, 17, 18, 18, 89, 90, 90, 98, 99, 99};
        for (int row = 0; row < taxes.length; row++) {
            Ferrytax x = paid(taxes[row]);
            due.is("refund of a tax of " + taxes[row], x.ofReceipt(0, 2), refunds[row]);
            due.is("PAID for a tax of " + taxes[row], x.ofReceipt(0, 0), Ferrytax.PAID);
            due.is("anew for a tax of " + taxes[row], x.refundsAnew(0), refunds[row]);
        }
    }

    // "all refunds of a traveller by one sailing are at most 500 together"
    private static void atMostFiveHundred() {
        int[] taxes = {554, 555, 556, 557, 558, 5000};
        int[] refunds = {498, 499, 500, 500, 500, 500};
        for (int row = 0; row < taxes.length; row++) {
            Ferrytax x = paid(taxes[row], 5, 5);
            due.is("refund of a tax of " + taxes[row], x.ofReceipt(0, 2), refunds[row]);
            due.is("what is left by " + taxes[row], x.ofReceipt(1, 2), 500 - refunds[row]);
            due.is("nothing later", x.ofReceipt(2, 2), 0);
            due.is("together with " + taxes[row], x.ofTraveller(0, 0), 500);
            due.is("together anew with " + taxes[row], x.refundsAnew(0), 500);
        }
    }

    // "the one that would come above that gets what is left to it, later ones nothing, and are PAID all the same"
    private static void whatIsLeftThenNothing() {
        refundsAre(new int[] {500, 55, 5, 5}, new int[] {450, 49, 1, 0});
        refundsAre(new int[] {500, 56, 5, 5}, new int[] {450, 50, 0, 0});
        refundsAre(new int[] {500, 57, 5, 5}, new int[] {450, 50, 0, 0});
        refundsAre(new int[] {500, 5000, 1, 5}, new int[] {450, 50, 0, 0});
        refundsAre(new int[] {500, 1, 5000, 5}, new int[] {450, 0, 50, 0});
        refundsAre(new int[] {100, 200, 255, 1}, new int[] {90, 180, 229, 0});
        refundsAre(new int[] {100, 200, 255, 2}, new int[] {90, 180, 229, 1});
        refundsAre(new int[] {100, 200, 255, 3}, new int[] {90, 180, 229, 1});
    }

    private static void refundsAre(int[] taxes, int[] refunds) {
        Ferrytax x = paid(taxes);
        int sum = 0;
        for (int receipt = 0; receipt < taxes.length; receipt++) {
            due.is("refund " + receipt + " of taxes from " + taxes[0], x.ofReceipt(receipt, 2), refunds[receipt]);
            due.is("PAID all the same", x.ofReceipt(receipt, 0), Ferrytax.PAID);
            due.is("PAID for the ferry", x.ofReceipt(receipt, 3), 0);
            sum += refunds[receipt];
        }
        due.is("all refunds", x.ofTraveller(0, 0), sum);
        due.is("all refunds anew", x.refundsAnew(0), sum);
    }

    // "receipts that are STAMPED for it, by numbers, are looked at"
    private static void boundGoesByNumbers() {
        Ferrytax x = new Ferrytax();
        for (int receipt = 0; receipt < 3; receipt++) {
            x.buy(receipt, 0, 0, 4000);
        }
        x.ferry(1, 1);
        x.seat(0, 0);
        x.stamp(2, 0);
        x.stamp(0, 0);
        x.stamp(1, 0);
        x.aboard(0, 0);
        x.pass(1);
        due.is("first by its number", x.ofReceipt(0, 2), 360);
        due.is("second by its number", x.ofReceipt(1, 2), 140);
        due.is("last by its number", x.ofReceipt(2, 2), 0);
    }

    // ".. by one sailing": the next sailing has its own 500
    private static void boundOfEachSailing() {
        Ferrytax x = new Ferrytax();
        for (int time = 1; time <= 20; time++) {
            x.buy(0, 0, 0, 10000);
            x.buy(0, 0, 0, 10000);
            int ferry = x.ferry(time, 1);
            x.seat(0, ferry);
            x.stamp(2 * time - 2, ferry);
            x.stamp(2 * time - 1, ferry);
            x.aboard(0, ferry);
            x.pass(1);
            due.is("refunds after " + time, x.ofTraveller(0, 0), 500 * time);
            due.is("refunds anew after " + time, x.refundsAnew(0), 500 * time);
            due.is("how often they left", x.comeBack(0), time);
        }
    }

    // "all refunds of a traveller by one sailing": each traveller has 500
    private static void boundOfEachTraveller() {
        Ferrytax x = new Ferrytax();
        x.ferry(1, 10);
        for (int receipt = 0; receipt < 20; receipt++) {
            int traveller = receipt % 10;
            x.buy(0, traveller, 0, 3000);
            if (receipt < 10) {
                x.seat(traveller, 0);
                x.aboard(traveller, 0);
            }
            x.stamp(receipt, 0);
        }
        x.pass(1);
        for (int traveller = 0; traveller < 10; traveller++) {
            due.is("the first refund", x.ofReceipt(traveller, 2), 270);
            due.is("the second refund", x.ofReceipt(traveller + 10, 2), 230);
            due.is("all refunds of one", x.ofTraveller(traveller, 0), 500);
            due.is("all refunds of one, anew", x.refundsAnew(traveller), 500);
        }
    }

    // "if a stamp of a receipt came to nothing so for the 2nd time, it is VOID"
    private static void openAgainThenVoid() {
        Ferrytax x = threeOpen();
        x.stamp(0, 0);
        x.pass(1);
        due.is("OPEN again", x.ofReceipt(0, 0), Ferrytax.OPEN);
        due.is("no ferry", x.ofReceipt(0, 3), Ferrytax.NONE);
        due.is("another stamp", x.stamp(0, 1), 100);
        x.stamp(1, 1);
        x.pass(1);
        due.is("VOID", x.ofReceipt(0, 0), Ferrytax.VOID);
        due.is("no ferry when VOID", x.ofReceipt(0, 3), Ferrytax.NONE);
        due.is("the 1st time of another receipt", x.ofReceipt(1, 0), Ferrytax.OPEN);
        due.notNow("giveBack of one VOID so", StampBoundariesTest::voidBySailings, y -> y.giveBack(0));
        due.notNow("check of one VOID so", StampBoundariesTest::voidBySailings, y -> y.check(0, false));
        due.notNow("stamp of one VOID so", () -> {
            Ferrytax y = voidBySailings();
            y.ferry(9, 1);
            y.seat(0, 2);
            return y;
        }, y -> y.stamp(0, 2));
        Ferrytax paid = threeOpen();
        paid.stamp(0, 0);
        paid.pass(1);
        paid.stamp(0, 1);
        paid.aboard(0, 1);
        paid.pass(1);
        due.is("PAID behind the 1st time", paid.ofReceipt(0, 2), 90);
    }

    // "Those of others": one who left with another ferry is none who has left with it
    private static void nothingByLeavingWithAnother() {
        Ferrytax x = new Ferrytax();
        x.buy(0, 0, 0, 1000);
        for (int ferry = 0; ferry < 3; ferry++) {
            x.ferry(ferry == 2 ? 3 : 2, 1);
            x.seat(0, ferry);
        }
        x.stamp(0, 1);
        x.aboard(0, 0);
        x.pass(2);
        due.is("left with another of that hour", x.ofReceipt(0, 0), Ferrytax.OPEN);
        due.is("stamped when left, for a seat of old", x.stamp(0, 2), 100);
        x.pass(1);
        due.is("left with another ahead", x.ofReceipt(0, 0), Ferrytax.VOID);
        due.is("no refunds", x.ofTraveller(0, 0), 0);
        due.is("no refunds anew", x.refundsAnew(0), 0);
    }

    // The fine is for goods that are not there; a sailing brings none.
    private static void voidBringsNoFine() {
        due.is("fines of one VOID by sailings", voidBySailings().ofTraveller(0, 1), 0);
        due.is("fines of one VOID by a check", inState(Ferrytax.VOID).ofTraveller(0, 1), 50);
    }

    // "Giving back a seat makes receipts .. OPEN again, which does not count so."
    private static void seatBackDoesNotCount() {
        Ferrytax x = threeOpen();
        for (int time = 0; time < 5; time++) {
            x.stamp(0, 0);
            due.is("OPEN again by that", x.leaveSeat(0, 0), 1);
            due.is("state then", x.ofReceipt(0, 0), Ferrytax.OPEN);
            x.seat(0, 0);
        }
        x.stamp(0, 0);
        x.pass(1);
        due.is("the 1st time that counts", x.ofReceipt(0, 0), Ferrytax.OPEN);
    }

    // It neither counts nor takes away from what has counted.
    private static void seatBackForgetsNothing() {
        Ferrytax x = threeOpen();
        x.stamp(0, 0);
        x.pass(1);
        x.stamp(0, 1);
        due.is("OPEN again by that", x.leaveSeat(0, 1), 1);
        x.seat(0, 1);
        due.is("still OPEN", x.ofReceipt(0, 0), Ferrytax.OPEN);
        x.stamp(0, 1);
        x.check(0, true);
        x.pass(1);
        due.is("the 2nd time that counts", x.ofReceipt(0, 0), Ferrytax.VOID);
    }

    // "receipts of that traveller that are STAMPED for that ferry"
    private static void seatBackOfThatTravellerAndFerry() {
        Ferrytax x = threeOpen();
        x.buy(0, 1, 0, 1000);
        x.seat(1, 0);
        due.is("none STAMPED", threeOpen().leaveSeat(0, 0), 0);
        for (int receipt = 0; receipt < 4; receipt++) {
            x.stamp(receipt, receipt == 1 ? 1 : 0);
        }
        x.check(2, false);
        due.is("all of them", x.leaveSeat(0, 0), 1);
        int[] states = {Ferrytax.OPEN, Ferrytax.STAMPED, Ferrytax.VOID, Ferrytax.STAMPED};
        int[] ferries = {Ferrytax.NONE, 1, Ferrytax.NONE, 0};
        for (int receipt = 0; receipt < 4; receipt++) {
            due.is("state of " + receipt, x.ofReceipt(receipt, 0), states[receipt]);
            due.is("ferry of " + receipt, x.ofReceipt(receipt, 3), ferries[receipt]);
        }
    }

    // "all refunds of a traveller, found again from stamps, checks and sailings"
    private static void refundsFoundAgain() {
        int[] refunds = {0, 0, 90, 0, 0};
        for (int state = 0; state < 5; state++) {
            due.is("refunds anew in state " + state, inState(state).refundsAnew(0), refunds[state]);
            due.is("of another in state " + state, inState(state).refundsAnew(1), 0);
        }
        Ferrytax x = threeOpen();
        for (int receipt = 0; receipt < 3; receipt++) {
            x.stamp(receipt, 0);
        }
        x.check(0, false);
        x.check(1, true);
        x.aboard(0, 0);
        due.is("ahead of the sailing", x.refundsAnew(0), 0);
        x.rate(0, 50);
        x.pass(1);
        due.is("without the one checked away", x.refundsAnew(0), 180);
        x.comeBack(0);
        x.leaveSeat(0, 1);
        due.is("when back", x.refundsAnew(0), 180);
        due.is("long after", Due.after(x, 9999).refundsAnew(0), 180);
    }

    // 60 receipts, the bound reached by the 12th of them.
    private static void sixtyReceiptsOnOneSailing() {
        Ferrytax x = new Ferrytax();
        x.ferry(1, 1);
        x.seat(9, 0);
        for (int receipt = 0; receipt < 60; receipt++) {
            x.buy(0, 9, 0, 500);
            x.stamp(receipt, 0);
        }
        x.aboard(9, 0);
        x.pass(1);
        for (int receipt = 0; receipt < 60; receipt++) {
            due.is("refund of " + receipt, x.ofReceipt(receipt, 2), receipt < 11 ? 45 : receipt == 11 ? 5 : 0);
            due.is("PAID all the same", x.ofReceipt(receipt, 0), Ferrytax.PAID);
        }
        due.is("together anew", x.refundsAnew(9), 500);
    }

    /** Receipt 0 of traveller 0 and shop 0, with a tax of 100, is in this state; ferries 0 and 1 sail at 1 and 2. */
    static Ferrytax inState(int state) {
        Ferrytax x = threeOpen();
        x.giveBack(1);
        x.giveBack(2);
        if (state == Ferrytax.BACK) {
            x.giveBack(0);
        } else if (state != Ferrytax.OPEN) {
            x.stamp(0, 1);
        }
        if (state == Ferrytax.VOID) {
            x.check(0, false);
        }
        if (state == Ferrytax.PAID) {
            x.aboard(0, 1);
            x.pass(2);
        }
        return x;
    }

    /** Receipts 0 to 2 of traveller 0 and shop 0, with taxes of 100, and seats on ferry 0 at 1 and ferry 1 at 2. */
    static Ferrytax threeOpen() {
        Ferrytax x = FerryBoundariesTest.twoFerries();
        for (int receipt = 0; receipt < 3; receipt++) {
            x.buy(0, 0, 0, 1000);
        }
        x.seat(0, 0);
        x.seat(0, 1);
        return x;
    }

    /** Receipt 0 of traveller 0 was stamped for ferries 0 and 1, and both were missed. */
    private static Ferrytax voidBySailings() {
        Ferrytax x = threeOpen();
        x.stamp(0, 0);
        x.pass(1);
        x.stamp(0, 1);
        return Due.after(x, 1);
    }

    /** Receipt 0 of this price, and a seat on ferry 0, which sails at 1. */
    private static Ferrytax seated(int price) {
        Ferrytax x = new Ferrytax();
        x.buy(0, 0, 0, price);
        x.ferry(1, 1);
        x.seat(0, 0);
        return x;
    }

    /** Receipt 0 with a tax of 100, a seat on ferry 0, and the hour now. */
    private static Ferrytax stampable(int sails, int now) {
        Ferrytax x = new Ferrytax();
        x.buy(0, 0, 0, 1000);
        x.ferry(sails, 1);
        x.seat(0, 0);
        return Due.after(x, now);
    }

    /** Traveller 0 has left with ferry 0 and receipts of these taxes, all bought with a rate of 50 and stamped. */
    private static Ferrytax paid(int... taxes) {
        Ferrytax x = new Ferrytax();
        x.ferry(1, 1);
        x.seat(0, 0);
        for (int receipt = 0; receipt < taxes.length; receipt++) {
            boolean small = taxes[receipt] <= 100;
            x.rate(0, small ? 1 : 50);
            x.buy(0, 0, 0, small ? Math.max(50, taxes[receipt] * 100) : taxes[receipt] * 2);
            due.is("tax of the scene", x.stamp(receipt, 0), taxes[receipt]);
        }
        x.aboard(0, 0);
        return Due.after(x, 1);
    }
}
