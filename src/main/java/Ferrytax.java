/** An island's customs: receipts with taxes, ferries with seats, stamps that hold for a sailing, and refunds. */
public final class Ferrytax {
    public static final int NONE = -1;
    public static final int OPEN = 0, STAMPED = 1, PAID = 2, VOID = 3, BACK = 4;

    private static final int SHOPS = 5;
    private static final int TRAVELLERS = 10;
    private static final int KINDS = 4;
    private static final int FIRST_RATE = 10;
    private static final int HIGHEST_RATE = 50;
    private static final int HIGHEST_PRICE = 10000;
    private static final int RECEIPT_LIMIT = 60;
    private static final int FERRY_LIMIT = 20;
    private static final int MOST_SEATS = 10;
    private static final int LAST_HOUR = 10000;
    private static final int MOST_HOURS_AT_ONCE = 100;

    private static final int HOURS_TO_GIVE_BACK = 240;
    private static final int HOURS_TO_STAMP = 12;
    private static final int HOURS_TO_BOARD = 3;
    private static final int LOWEST_STAMPED_PRICE = 50;
    private static final int FINE = 50;
    private static final int REFUND_BOUND = 500;
    private static final int WASTED_STAMPS_TO_VOID = 2;
    private static final int DIGITS_OF_AN_INT = 10;

    /** What a traveller is to one ferry; GONE stays, so that refunds can be found again from it. */
    private static final int NO_SEAT = 0, SEATED = 1, ABOARD = 2, GONE = 3;

    private static final class Receipt {
        int shop;
        int traveller;
        int price;
        int tax;
        int boughtAt;
        int state;
        int stampedFor;
        int refund;
        int wastedStamps;
    }

    private static final class Ferry {
        int sailsAt;
        int seats;
        final int[] places = new int[TRAVELLERS];
    }

    private static final class Traveller {
        int refunds;
        int fines;
        int missed;
        int timesLeft;
        boolean left;
    }

    private final int[] rates = new int[KINDS];
    private final Receipt[] receipts = new Receipt[RECEIPT_LIMIT];
    private final Ferry[] ferries = new Ferry[FERRY_LIMIT];
    private final Traveller[] travellers = new Traveller[TRAVELLERS];
    private int receiptCount = 0;
    private int ferryCount = 0;
    private int now = 0;

    public Ferrytax() {
        for (int kind = 0; kind < KINDS; kind++) {
            rates[kind] = FIRST_RATE;
        }
        // All rows are made here, so that none of them is ever null and later calls only use them again.
        for (int row = 0; row < RECEIPT_LIMIT; row++) {
            receipts[row] = new Receipt();
        }
        for (int row = 0; row < FERRY_LIMIT; row++) {
            ferries[row] = new Ferry();
        }
        for (int row = 0; row < TRAVELLERS; row++) {
            travellers[row] = new Traveller();
        }
    }

    public int rate(int kind, int rate) throws IndexOutOfBoundsException, IllegalArgumentException {
        requireKind(kind);
        if (rate < 0 || rate > HIGHEST_RATE) {
            throw new IllegalArgumentException("the rate is out of range");
        }
        int before = rates[kind];
        rates[kind] = rate;
        return before;
    }

    public int buy(int shop, int traveller, int kind, int price)
            throws IndexOutOfBoundsException, IllegalArgumentException, IllegalStateException {
        requireShop(shop);
        Traveller buyer = travellerNumbered(traveller);
        requireKind(kind);
        if (price < 1 || price > HIGHEST_PRICE) {
            throw new IllegalArgumentException("the price is out of range");
        }
        requireOnIsland(buyer);
        if (receiptCount >= RECEIPT_LIMIT) {
            throw new IllegalStateException("there are as many receipts as there may be");
        }
        Receipt row = receipts[receiptCount];
        row.shop = shop;
        row.traveller = traveller;
        row.price = price;
        row.tax = price * rates[kind] / 100;
        row.boughtAt = now;
        row.state = OPEN;
        row.stampedFor = NONE;
        receiptCount++;
        return receiptCount - 1;
    }

    public int giveBack(int receipt) throws IndexOutOfBoundsException, IllegalStateException {
        Receipt row = receiptNumbered(receipt);
        requireOpen(row);
        if (now - row.boughtAt > HOURS_TO_GIVE_BACK) {
            throw new IllegalStateException("it is too late to give the goods back");
        }
        requireOnIsland(travellerNumbered(row.traveller));
        row.state = BACK;
        return row.price + row.tax;
    }

    public int ferry(int hour, int seats) throws IllegalArgumentException, IllegalStateException {
        if (hour <= now || hour > LAST_HOUR) {
            throw new IllegalArgumentException("the hour is out of range");
        }
        if (seats < 1 || seats > MOST_SEATS) {
            throw new IllegalArgumentException("the seats are out of range");
        }
        if (ferryCount >= FERRY_LIMIT) {
            throw new IllegalStateException("there are as many ferries as there may be");
        }
        Ferry row = ferries[ferryCount];
        row.sailsAt = hour;
        row.seats = seats;
        ferryCount++;
        return ferryCount - 1;
    }

    public int seat(int traveller, int ferry) throws IndexOutOfBoundsException, IllegalStateException {
        Traveller taker = travellerNumbered(traveller);
        Ferry row = ferryNumbered(ferry);
        requireNotSailed(row);
        requireOnIsland(taker);
        if (row.places[traveller] != NO_SEAT) {
            throw new IllegalStateException("the traveller has a seat there");
        }
        if (seatsLeft(row) < 1) {
            throw new IllegalStateException("no seat is left");
        }
        row.places[traveller] = SEATED;
        return seatsLeft(row);
    }

    public int leaveSeat(int traveller, int ferry) throws IndexOutOfBoundsException, IllegalStateException {
        requireTraveller(traveller);
        Ferry row = ferryNumbered(ferry);
        requireNotSailed(row);
        requireSeat(row, traveller);
        row.places[traveller] = NO_SEAT;
        return reopenStamped(traveller, ferry);
    }

    public int aboard(int traveller, int ferry) throws IndexOutOfBoundsException, IllegalStateException {
        Traveller boarder = travellerNumbered(traveller);
        Ferry row = ferryNumbered(ferry);
        requireSeat(row, traveller);
        requireOnIsland(boarder);
        requireWithin(row, HOURS_TO_BOARD);
        if (isAboardSomewhere(traveller)) {
            throw new IllegalStateException("the traveller is aboard of a ferry");
        }
        row.places[traveller] = ABOARD;
        return placesWith(row, ABOARD);
    }

    public int stamp(int receipt, int ferry) throws IndexOutOfBoundsException, IllegalStateException {
        Receipt row = receiptNumbered(receipt);
        Ferry target = ferryNumbered(ferry);
        requireOpen(row);
        if (row.price < LOWEST_STAMPED_PRICE) {
            throw new IllegalStateException("the price is too low for a stamp");
        }
        requireSeat(target, row.traveller);
        requireWithin(target, HOURS_TO_STAMP);
        row.state = STAMPED;
        row.stampedFor = ferry;
        return row.tax;
    }

    public int check(int receipt, boolean there) throws IndexOutOfBoundsException, IllegalStateException {
        Receipt row = receiptNumbered(receipt);
        if (row.state != STAMPED) {
            throw new IllegalStateException("the receipt is not STAMPED");
        }
        if (!there) {
            takeStampOff(row, VOID);
            travellerNumbered(row.traveller).fines += FINE;
        }
        return row.state;
    }

    public int comeBack(int traveller) throws IndexOutOfBoundsException, IllegalStateException {
        Traveller row = travellerNumbered(traveller);
        if (!row.left) {
            throw new IllegalStateException("the traveller has not left");
        }
        row.left = false;
        return row.timesLeft;
    }

    public int pass(int hours) throws IllegalArgumentException, IllegalStateException {
        if (hours < 1 || hours > MOST_HOURS_AT_ONCE) {
            throw new IllegalArgumentException("the hours are out of range");
        }
        if (hours > LAST_HOUR - now) {
            throw new IllegalStateException("the hour would be above the last one");
        }
        for (int passed = 0; passed < hours; passed++) {
            now++;
            sailAllOfNow();
        }
        return now;
    }

    public int ofReceipt(int receipt, int what) throws IndexOutOfBoundsException, IllegalArgumentException {
        Receipt row = receiptNumbered(receipt);
        switch (what) {
            case 0:
                return row.state;
            case 1:
                return row.tax;
            case 2:
                return row.refund;
            case 3:
                return row.stampedFor;
            default:
                throw new IllegalArgumentException("what is out of range");
        }
    }

    public char code(int receipt, int place) throws IndexOutOfBoundsException {
        Receipt row = receiptNumbered(receipt);
        if (place < 0) {
            throw new IndexOutOfBoundsException("the place is below 0");
        }
        StringBuilder signs = new StringBuilder();
        signs.append('R').append(receipt).append('-');
        appendBackwards(signs, row.tax);
        return place < signs.length() ? signs.charAt(place) : (char) 0;
    }

    public int ofTraveller(int traveller, int what) throws IndexOutOfBoundsException, IllegalArgumentException {
        Traveller row = travellerNumbered(traveller);
        switch (what) {
            case 0:
                return row.refunds;
            case 1:
                return row.fines;
            case 2:
                return row.missed;
            case 3:
                return row.left ? 1 : 0;
            default:
                throw new IllegalArgumentException("what is out of range");
        }
    }

    public int refundsAnew(int traveller) throws IndexOutOfBoundsException {
        requireTraveller(traveller);
        int sum = 0;
        for (int ferry = 0; ferry < ferryCount; ferry++) {
            if (ferries[ferry].places[traveller] == GONE) {
                sum += refundsOfSailing(traveller, ferry);
            }
        }
        return sum;
    }

    public int debt(int shop) throws IndexOutOfBoundsException {
        requireShop(shop);
        int sum = 0;
        for (int receipt = 0; receipt < receiptCount; receipt++) {
            Receipt row = receipts[receipt];
            if (row.shop == shop && row.state != BACK) {
                sum += row.tax;
            }
        }
        return sum;
    }

    private void requireShop(int shop) {
        if (shop < 0 || shop >= SHOPS) {
            throw new IndexOutOfBoundsException("there is no such shop");
        }
    }

    private void requireKind(int kind) {
        if (kind < 0 || kind >= KINDS) {
            throw new IndexOutOfBoundsException("there is no such kind");
        }
    }

    private void requireTraveller(int traveller) {
        if (traveller < 0 || traveller >= TRAVELLERS) {
            throw new IndexOutOfBoundsException("there is no such traveller");
        }
    }

    private Traveller travellerNumbered(int traveller) {
        requireTraveller(traveller);
        return travellers[traveller];
    }

    private Receipt receiptNumbered(int receipt) {
        if (receipt < 0 || receipt >= receiptCount) {
            throw new IndexOutOfBoundsException("there is no such receipt");
        }
        return receipts[receipt];
    }

    private Ferry ferryNumbered(int ferry) {
        if (ferry < 0 || ferry >= ferryCount) {
            throw new IndexOutOfBoundsException("there is no such ferry");
        }
        return ferries[ferry];
    }

    private void requireOnIsland(Traveller traveller) {
        if (traveller.left) {
            throw new IllegalStateException("the traveller has left");
        }
    }

    private void requireOpen(Receipt receipt) {
        if (receipt.state != OPEN) {
            throw new IllegalStateException("the receipt is not OPEN");
        }
    }

    private void requireNotSailed(Ferry ferry) {
        if (now >= ferry.sailsAt) {
            throw new IllegalStateException("the ferry has sailed");
        }
    }

    private void requireSeat(Ferry ferry, int traveller) {
        if (ferry.places[traveller] == NO_SEAT) {
            throw new IllegalStateException("the traveller has no seat there");
        }
    }

    private void requireWithin(Ferry ferry, int hoursBefore) {
        requireNotSailed(ferry);
        if (now < ferry.sailsAt - hoursBefore) {
            throw new IllegalStateException("it is too early");
        }
    }

    private int placesWith(Ferry ferry, int place) {
        int count = 0;
        for (int traveller = 0; traveller < TRAVELLERS; traveller++) {
            if (ferry.places[traveller] == place) {
                count++;
            }
        }
        return count;
    }

    private int seatsLeft(Ferry ferry) {
        return ferry.seats - (TRAVELLERS - placesWith(ferry, NO_SEAT));
    }

    private boolean isAboardSomewhere(int traveller) {
        for (int ferry = 0; ferry < ferryCount; ferry++) {
            if (ferries[ferry].places[traveller] == ABOARD) {
                return true;
            }
        }
        return false;
    }

    private boolean isStampedFor(Receipt receipt, int traveller, int ferry) {
        return receipt.state == STAMPED && receipt.traveller == traveller && receipt.stampedFor == ferry;
    }

    private void takeStampOff(Receipt receipt, int newState) {
        receipt.state = newState;
        receipt.stampedFor = NONE;
    }

    private int reopenStamped(int traveller, int ferry) {
        int reopened = 0;
        for (int receipt = 0; receipt < receiptCount; receipt++) {
            if (isStampedFor(receipts[receipt], traveller, ferry)) {
                takeStampOff(receipts[receipt], OPEN);
                reopened++;
            }
        }
        return reopened;
    }

    private void sailAllOfNow() {
        for (int ferry = 0; ferry < ferryCount; ferry++) {
            if (ferries[ferry].sailsAt == now) {
                sail(ferry);
            }
        }
    }

    // Only who has a seat can hold stamps for the ferry, so going over the seats settles all of its stamps.
    private void sail(int ferry) {
        int[] places = ferries[ferry].places;
        for (int traveller = 0; traveller < TRAVELLERS; traveller++) {
            if (places[traveller] == ABOARD) {
                places[traveller] = GONE;
                travellers[traveller].left = true;
                travellers[traveller].timesLeft++;
                payStamped(traveller, ferry);
            } else if (places[traveller] == SEATED) {
                travellers[traveller].missed++;
                wasteStamped(traveller, ferry);
            }
        }
    }

    private void payStamped(int traveller, int ferry) {
        int room = REFUND_BOUND;
        for (int receipt = 0; receipt < receiptCount; receipt++) {
            Receipt row = receipts[receipt];
            if (isStampedFor(row, traveller, ferry)) {
                row.state = PAID;
                row.refund = Math.min(refundOfTax(row.tax), room);
                room -= row.refund;
                travellers[traveller].refunds += row.refund;
            }
        }
    }

    private void wasteStamped(int traveller, int ferry) {
        for (int receipt = 0; receipt < receiptCount; receipt++) {
            Receipt row = receipts[receipt];
            if (isStampedFor(row, traveller, ferry)) {
                row.wastedStamps++;
                takeStampOff(row, row.wastedStamps >= WASTED_STAMPS_TO_VOID ? VOID : OPEN);
            }
        }
    }

    private int refundOfTax(int tax) {
        return tax - (tax + 9) / 10;
    }

    // Found from the stamps that held and from who sailed alone, not from what was written down when it was paid.
    private int refundsOfSailing(int traveller, int ferry) {
        int sum = 0;
        for (int receipt = 0; receipt < receiptCount; receipt++) {
            Receipt row = receipts[receipt];
            if (row.traveller == traveller && row.stampedFor == ferry) {
                sum += refundOfTax(row.tax);
            }
        }
        return Math.min(sum, REFUND_BOUND);
    }

    private void appendBackwards(StringBuilder signs, int number) {
        int rest = number;
        for (int digit = 0; digit < DIGITS_OF_AN_INT && (digit == 0 || rest > 0); digit++) {
            signs.append((char) ('0' + rest % 10));
            rest /= 10;
        }
    }
}
