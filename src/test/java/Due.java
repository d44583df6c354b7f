import java.util.function.Consumer;
import java.util.function.Supplier;

/** What the tests share: answers compared with those that are due, and calls that must be refused. */
final class Due {
    private static final int RECEIPTS_PROBED = 4;
    private static final int FERRIES_PROBED = 3;
    private int wrong = 0;

    void is(String what, long got, long want) {
        if (got != want) {
            report(what + " answered " + got + ", due is " + want);
        }
    }

    void code(Ferrytax x, int receipt, String want) {
        for (int place = 0; place < want.length(); place++) {
            is("code(" + receipt + ", " + place + ")", x.code(receipt, place), want.charAt(place));
        }
        for (int behind = 0; behind < 3; behind++) {
            is("code behind " + want, x.code(receipt, want.length() + behind), 0);
        }
        is("code far behind " + want, x.code(receipt, Integer.MAX_VALUE), 0);
    }

    /** The call must throw just this exception and leave the object as one is for which it was never made. */
    void refused(String what, Class<? extends RuntimeException> kind, Supplier<Ferrytax> scene, Consumer<Ferrytax> call) {
        Ferrytax touched = scene.get();
        try {
            call.accept(touched);
            report(what + " threw nothing, due is " + kind.getName());
            return;
        } catch (RuntimeException e) {
            if (e.getClass() != kind) {
                report(what + " threw " + e.getClass().getName() + ", due is " + kind.getName());
            }
        }
        String got = allAnswers(touched);
        String want = allAnswers(scene.get());
        if (!got.equals(want)) {
            report(what + " changed something: " + got + " instead of " + want);
        }
    }

    void noSuch(String what, Supplier<Ferrytax> scene, Consumer<Ferrytax> call) {
        refused(what, IndexOutOfBoundsException.class, scene, call);
    }

    void outOfRange(String what, Supplier<Ferrytax> scene, Consumer<Ferrytax> call) {
        refused(what, IllegalArgumentException.class, scene, call);
    }

    void notNow(String what, Supplier<Ferrytax> scene, Consumer<Ferrytax> call) {
        refused(what, IllegalStateException.class, scene, call);
    }

    void end() {
        System.out.println(wrong == 0 ? "all answers are as due" : wrong + " answers are not as due");
        if (wrong != 0) {
            System.exit(1);
        }
    }

    void report(String text) {
        wrong++;
        System.out.println(text);
    }

    // The askers first; then calls that change the object, since only they show its seats, rates and hour.
    private static String allAnswers(Ferrytax x) {
        StringBuilder all = new StringBuilder();
        askEverything(x, all);
        for (int kind = 0; kind < 4; kind++) {
            int k = kind;
            answer(all, () -> x.rate(k, 7));
        }
        for (int ferry = 0; ferry < FERRIES_PROBED; ferry++) {
            actAllOn(x, ferry, all);
        }
        answer(all, () -> x.buy(0, 9, 0, 100));
        answer(all, () -> x.ferry(10000, 1));
        answer(all, () -> x.pass(1));
        for (int receipt = 0; receipt < RECEIPTS_PROBED; receipt++) {
            int r = receipt;
            answer(all, () -> x.check(r, true));
            answer(all, () -> x.giveBack(r));
        }
        for (int traveller = 0; traveller < 10; traveller++) {
            int t = traveller;
            answer(all, () -> x.comeBack(t));
        }
        askEverything(x, all);
        return all.toString();
    }

    private static void actAllOn(Ferrytax x, int ferry, StringBuilder all) {
        for (int traveller = 0; traveller < 10; traveller++) {
            int t = traveller;
            answer(all, () -> x.aboard(t, ferry));
            answer(all, () -> x.leaveSeat(t, ferry));
            answer(all, () -> x.seat(t, ferry));
        }
    }

    private static void askEverything(Ferrytax x, StringBuilder all) {
        for (int number = 0; number < 10; number++) {
            int n = number;
            for (int what = 0; what < 4; what++) {
                int w = what;
                answer(all, () -> x.ofTraveller(n, w));
                if (n < RECEIPTS_PROBED) {
                    answer(all, () -> x.ofReceipt(n, w));
                }
            }
            answer(all, () -> x.refundsAnew(n));
            if (n < 5) {
                answer(all, () -> x.debt(n));
            }
        }
    }

    private static void answer(StringBuilder all, Supplier<Integer> call) {
        try {
            all.append(call.get());
        } catch (RuntimeException e) {
            all.append(e.getClass().getSimpleName());
        }
        all.append(' ');
    }
}
