import java.util.Random;
import java.util.function.IntSupplier;

/** Runs of 512 calls of all kinds, always the same ones, on the program and on the model: all answers must agree. */
public final class ModelTest {
    private static final int RUNS = 3000;
    private static final int CALLS = 512;
    private static final int[] ODD = {-1, Integer.MIN_VALUE, Integer.MAX_VALUE, 4, 5, 10, 20, 51, 60, 100, 101, 10001};

    private final Random random;
    private final Ferrytax x = new Ferrytax();
    private final Model m = new Model();
    private int receipts = 0;
    private int ferries = 0;
    private int hour = 0;

    private ModelTest(int seed) {
        random = new Random(seed);
    }

    public static void main(String[] args) {
        Due due = new Due();
        int told = 0;
        for (int seed = 0; seed < RUNS && told < 5; seed++) {
            String difference = new ModelTest(seed).firstDifference();
            if (difference != null) {
                due.report("run " + seed + ": " + difference);
                told++;
            }
        }
        due.end();
    }

    private String firstDifference() {
        for (int call = 0; call < CALLS; call++) {
            String difference = anyCall();
            if (difference != null) {
                return "call " + call + ": " + difference;
            }
        }
        return null;
    }

    private String anyCall() {
        int kind = random.nextInt(100);
        if (kind < 50) {
            return anyAct(kind);
        }
        int t = upTo(10);
        int r = upTo(receipts);
        int what = upTo(4);
        if (kind < 65) {
            return compare("ofReceipt(" + r + ", " + what + ")", () -> x.ofReceipt(r, what), () -> m.ofReceipt(r, what));
        }
        if (kind < 75) {
            return compare("ofTraveller(" + t + ", " + what + ")", () -> x.ofTraveller(t, what), () -> m.ofTraveller(t, what));
        }
        if (kind < 82) {
            return compare("refundsAnew(" + t + ")", () -> x.refundsAnew(t), () -> m.refundsAnew(t));
        }
        if (kind < 90) {
            int place = upTo(10);
            return compare("code(" + r + ", " + place + ")", () -> x.code(r, place), () -> m.code(r, place));
        }
        if (kind < 93) {
            int shop = upTo(5);
            return compare("debt(" + shop + ")", () -> x.debt(shop), () -> m.debt(shop));
        }
        int hours = random.nextInt(8) > 0 ? 1 + random.nextInt(6) : upTo(101);
        String difference = compare("pass(" + hours + ")", () -> x.pass(hours), () -> m.pass(hours));
        if (hours > 0 && hours <= 100) {
            hour += hours;
        }
        return difference;
    }

    private String anyAct(int kind) {
        int t = upTo(4 + random.nextInt(7));
        int r = upTo(receipts);
        int f = ferries > 3 && random.nextInt(5) > 0 ? ferries - 1 - random.nextInt(3) : upTo(ferries);
        if (kind < 3) {
            int k = upTo(4);
            int rate = upTo(51);
            return compare("rate(" + k + ", " + rate + ")", () -> x.rate(k, rate), () -> m.rate(k, rate));
        }
        if (kind < 10) {
            return anyPurchase(t);
        }
        if (kind < 13) {
            int at = random.nextInt(9) > 0 ? hour + 1 + random.nextInt(20) : upTo(10001);
            int seats = upTo(11);
            String difference = compare("ferry(" + at + ", " + seats + ")", () -> x.ferry(at, seats), () -> m.ferry(at, seats));
            ferries = Math.min(20, ferries + 1);
            return difference;
        }
        if (kind < 15) {
            return compare("giveBack(" + r + ")", () -> x.giveBack(r), () -> m.giveBack(r));
        }
        if (kind < 23) {
            return compare("seat(" + t + ", " + f + ")", () -> x.seat(t, f), () -> m.seat(t, f));
        }
        if (kind < 25) {
            return compare("leaveSeat(" + t + ", " + f + ")", () -> x.leaveSeat(t, f), () -> m.leaveSeat(t, f));
        }
        if (kind < 33) {
            return compare("aboard(" + t + ", " + f + ")", () -> x.aboard(t, f), () -> m.aboard(t, f));
        }
        if (kind < 45) {
            return compare("stamp(" + r + ", " + f + ")", () -> x.stamp(r, f), () -> m.stamp(r, f));
        }
        if (kind < 47) {
            boolean there = random.nextInt(3) > 0;
            return compare("check(" + r + ", " + there + ")", () -> x.check(r, there), () -> m.check(r, there));
        }
        return compare("comeBack(" + t + ")", () -> x.comeBack(t), () -> m.comeBack(t));
    }

    private String anyPurchase(int traveller) {
        int shop = upTo(5);
        int kind = upTo(4);
        int price = random.nextInt(4) > 0 ? 40 + random.nextInt(3000) : upTo(10001);
        String difference = compare("buy(" + shop + ", " + traveller + ", " + kind + ", " + price + ")",
            () -> x.buy(shop, traveller, kind, price), () -> m.buy(shop, traveller, kind, price));
        receipts = Math.min(60, receipts + 1);
        return difference;
    }

    /** Mostly a number from 0 to below the end, now and then an odd one. */
    private int upTo(int end) {
        if (end < 1 || random.nextInt(40) == 0) {
            return ODD[random.nextInt(ODD.length)];
        }
        return random.nextInt(end);
    }

    private static String compare(String call, IntSupplier program, IntSupplier model) {
        String got = answer(program);
        String want = answer(model);
        return got.equals(want) ? null : call + " answered " + got + ", the model " + want;
    }

    private static String answer(IntSupplier call) {
        try {
            return String.valueOf(call.getAsInt());
        } catch (RuntimeException e) {
            return e.getClass().getName();
        }
    }
}
