import java.util.List;
import java.util.function.BiConsumer;
import java.util.function.IntSupplier;

/**
 * Runs of calls that show what an object holds. Each is made on an object of its own, so that none hides by its own
 * changes what another one would show; the few calls of its kind come first, ahead of those that look at the rest.
 */
final class Probes {
    static final List<BiConsumer<Ferrytax, Answers>> ALL = List.of(
        Probes::askOfAllReceipts, Probes::askOfAllTravellers, Probes::takeSeats, Probes::leaveSeats, Probes::goAboard,
        Probes::stampAll, Probes::checkAll, Probes::giveAllBack, Probes::comeBackAndBuy, Probes::leaveOnceMore,
        Probes::setRatesAndBuy, Probes::planAndPass, Probes::passByHours, Probes::wasteStampsTwice,
        Probes::giveBackLate);

    private static final int TRAVELLERS = 10;
    private static final int RECEIPTS = 8;
    private static final int FERRIES = 4;
    private static final int HOURS = 24;

    /** Collects answers; an exception is an answer by its name. */
    static final class Answers {
        private final StringBuilder all = new StringBuilder();

        void add(IntSupplier call) {
            try {
                all.append(call.getAsInt());
            } catch (RuntimeException e) {
                all.append(e.getClass().getSimpleName());
            }
            all.append(' ');
        }

        @Override
        public String toString() {
            return all.toString();
        }
    }

    private Probes() {}

    static String answers(BiConsumer<Ferrytax, Answers> probe, Ferrytax x) {
        Answers answers = new Answers();
        probe.accept(x, answers);
        return answers.toString();
    }

    private static void askOfAllReceipts(Ferrytax x, Answers answers) {
        askOfReceipts(x, answers, 60);
        for (int shop = 0; shop < 5; shop++) {
            int s = shop;
            answers.add(() -> x.debt(s));
        }
    }

    private static void askOfReceipts(Ferrytax x, Answers answers, int count) {
        for (int receipt = 0; receipt < count; receipt++) {
            for (int what = 0; what < 4; what++) {
                int r = receipt;
                int w = what;
                answers.add(() -> x.ofReceipt(r, w));
            }
        }
    }

    private static void askOfAllTravellers(Ferrytax x, Answers answers) {
        for (int traveller = 0; traveller < TRAVELLERS; traveller++) {
            int t = traveller;
            for (int what = 0; what < 4; what++) {
                int w = what;
                answers.add(() -> x.ofTraveller(t, w));
            }
            answers.add(() -> x.refundsAnew(t));
        }
    }

    private static void takeSeats(Ferrytax x, Answers answers) {
        for (int ferry = 0; ferry < FERRIES; ferry++) {
            for (int traveller = 0; traveller < TRAVELLERS; traveller++) {
                int f = ferry;
                int t = traveller;
                answers.add(() -> x.seat(t, f));
            }
        }
    }

    // A free seat is told only by the next one who takes it, so that two ends of the row are asked.
    private static void leaveSeats(Ferrytax x, Answers answers) {
        for (int ferry = 0; ferry < FERRIES; ferry++) {
            int f = ferry;
            for (int traveller = TRAVELLERS - 1; traveller >= 0; traveller--) {
                int t = traveller;
                answers.add(() -> x.leaveSeat(t, f));
            }
            answers.add(() -> x.seat(0, f));
            answers.add(() -> x.seat(9, f));
        }
        askOfReceipts(x, answers, RECEIPTS);
    }

    private static void goAboard(Ferrytax x, Answers answers) {
        for (int ferry = FERRIES - 1; ferry >= 0; ferry--) {
            for (int traveller = 0; traveller < TRAVELLERS; traveller++) {
                int f = ferry;
                int t = traveller;
                answers.add(() -> x.aboard(t, f));
            }
        }
        answers.add(() -> x.pass(HOURS));
        askOfAllTravellers(x, answers);
    }

    private static void stampAll(Ferrytax x, Answers answers) {
        for (int receipt = 0; receipt < RECEIPTS; receipt++) {
            for (int ferry = 0; ferry < FERRIES; ferry++) {
                int r = receipt;
                int f = ferry;
                answers.add(() -> x.stamp(r, f));
            }
        }
        askOfReceipts(x, answers, RECEIPTS);
    }

    private static void checkAll(Ferrytax x, Answers answers) {
        for (int receipt = 0; receipt < RECEIPTS; receipt++) {
            int r = receipt;
            answers.add(() -> x.check(r, true));
            answers.add(() -> x.check(r, false));
        }
        askOfAllTravellers(x, answers);
    }

    private static void giveAllBack(Ferrytax x, Answers answers) {
        for (int receipt = 0; receipt < 60; receipt++) {
            int r = receipt;
            answers.add(() -> x.giveBack(r));
        }
        askOfAllReceipts(x, answers);
    }

    private static void comeBackAndBuy(Ferrytax x, Answers answers) {
        comeBackAll(x, answers);
        for (int traveller = 0; traveller < TRAVELLERS; traveller++) {
            int t = traveller;
            answers.add(() -> x.buy(0, t, 0, 100));
        }
    }

    private static void comeBackAll(Ferrytax x, Answers answers) {
        for (int traveller = 0; traveller < TRAVELLERS; traveller++) {
            int t = traveller;
            answers.add(() -> x.comeBack(t));
        }
    }

    // How often one on the island has left is told only when they have left again.
    private static void leaveOnceMore(Ferrytax x, Answers answers) {
        int ferry = ferryOfNextHour(x);
        for (int traveller = 0; traveller < TRAVELLERS; traveller++) {
            int t = traveller;
            answers.add(() -> x.seat(t, ferry));
            answers.add(() -> x.aboard(t, ferry));
        }
        answers.add(() -> x.pass(1));
        comeBackAll(x, answers);
    }

    /** The ferry's number, or NONE if there are too many or the hours are at their end. */
    private static int ferryOfNextHour(Ferrytax x) {
        try {
            return x.ferry(x.pass(1) + 1, 10);
        } catch (IllegalStateException | IllegalArgumentException e) {
            return Ferrytax.NONE;
        }
    }

    private static void setRatesAndBuy(Ferrytax x, Answers answers) {
        for (int kind = 0; kind < 4; kind++) {
            int k = kind;
            answers.add(() -> x.rate(k, 7));
        }
        answers.add(() -> x.buy(4, 9, 0, 100));
        answers.add(() -> x.buy(4, 0, 0, 100));
        askOfReceipts(x, answers, RECEIPTS);
    }

    private static void planAndPass(Ferrytax x, Answers answers) {
        answers.add(() -> x.ferry(10000, 1));
        answers.add(() -> x.pass(1));
    }

    private static void passByHours(Ferrytax x, Answers answers) {
        for (int hour = 0; hour < HOURS; hour++) {
            answers.add(() -> x.pass(1));
            for (int traveller = 0; traveller < TRAVELLERS; traveller++) {
                int t = traveller;
                answers.add(() -> x.ofTraveller(t, 2));
            }
        }
        askOfReceipts(x, answers, RECEIPTS);
    }

    // A receipt bought only now shows whether a refused purchase left anything behind.
    private static void wasteStampsTwice(Ferrytax x, Answers answers) {
        comeBackAll(x, answers);
        answers.add(() -> x.buy(3, 9, 0, 100));
        for (int time = 0; time < 2; time++) {
            int ferry = ferryOfNextHour(x);
            for (int traveller = 0; traveller < TRAVELLERS; traveller++) {
                int t = traveller;
                answers.add(() -> x.seat(t, ferry));
            }
            for (int receipt = 0; receipt < RECEIPTS; receipt++) {
                int r = receipt;
                answers.add(() -> x.stamp(r, ferry));
            }
            answers.add(() -> x.pass(1));
            askOfReceipts(x, answers, RECEIPTS);
        }
    }

    // Hour 241 is the first at which goods bought at hour 0 can't go back any more.
    private static void giveBackLate(Ferrytax x, Answers answers) {
        comeBackAll(x, answers);
        int hour;
        try {
            hour = x.pass(1);
        } catch (IllegalStateException e) {
            return;
        }
        for (int part = 0; part < 3 && hour < 241; part++) {
            hour = x.pass(Math.min(100, 241 - hour));
        }
        for (int receipt = 0; receipt < 60; receipt++) {
            int r = receipt;
            answers.add(() -> x.giveBack(r));
        }
    }
}
