import java.util.ArrayList;
import java.util.HashMap;
import java.util.HashSet;
import java.util.List;
import java.util.Map;
import java.util.Set;

/** A plain second reading of the document, built of other parts than the program: maps, sets and a list of events. */
final class Model {
    private record Event(String kind, int receipt, int ferry, int traveller, Set<Integer> aboard) {}

    private static final class Bill {
        int shop, traveller, price, tax, hour, state, refund, ferry = -1, wasted;
    }

    private static final class Ship {
        int hour, seats;
        final Set<Integer> seated = new HashSet<>();
        final Set<Integer> aboard = new HashSet<>();
    }

    private final int[] rates = {10, 10, 10, 10};
    private final List<Bill> bills = new ArrayList<>();
    private final List<Ship> ships = new ArrayList<>();
    private final Set<Integer> away = new HashSet<>();
    private final Map<Integer, Integer> fines = new HashMap<>();
    private final Map<Integer, Integer> missed = new HashMap<>();
    private final Map<Integer, Integer> departures = new HashMap<>();
    private final List<Event> events = new ArrayList<>();
    private int hour = 0;

    int rate(int kind, int rate) {
        index(kind, 4);
        range(rate, 0, 50);
        int before = rates[kind];
        rates[kind] = rate;
        return before;
    }

    int buy(int shop, int traveller, int kind, int price) {
        index(shop, 5);
        index(traveller, 10);
        index(kind, 4);
        range(price, 1, 10000);
        state(!away.contains(traveller) && bills.size() < 60);
        Bill b = new Bill();
        b.shop = shop;
        b.traveller = traveller;
        b.price = price;
        b.tax = (int) Math.floor(price * (double) rates[kind] / 100);
        b.hour = hour;
        bills.add(b);
        return bills.size() - 1;
    }

    int giveBack(int receipt) {
        index(receipt, bills.size());
        Bill b = bills.get(receipt);
        state(b.state == 0 && hour <= b.hour + 240 && !away.contains(b.traveller));
        b.state = 4;
        return b.price + b.tax;
    }

    int ferry(int at, int seats) {
        range(at, hour + 1, 10000);
        range(seats, 1, 10);
        state(ships.size() < 20);
        Ship s = new Ship();
        s.hour = at;
        s.seats = seats;
        ships.add(s);
        return ships.size() - 1;
    }

    int seat(int traveller, int ferry) {
        index(traveller, 10);
        index(ferry, ships.size());
        Ship s = ships.get(ferry);
        state(hour < s.hour && s.seated.size() < s.seats && !s.seated.contains(traveller) && !away.contains(traveller));
        s.seated.add(traveller);
        return s.seats - s.seated.size();
    }

    int leaveSeat(int traveller, int ferry) {
        index(traveller, 10);
        index(ferry, ships.size());
        Ship s = ships.get(ferry);
        state(hour < s.hour && s.seated.contains(traveller));
        s.seated.remove(traveller);
        s.aboard.remove(traveller);
        events.add(new Event("leave", -1, ferry, traveller, null));
        int again = 0;
        for (Bill b : bills) {
            if (b.state == 1 && b.ferry == ferry && b.traveller == traveller) {
                b.state = 0;
                again++;
            }
        }
        return again;
    }

    int aboard(int traveller, int ferry) {
        index(traveller, 10);
        index(ferry, ships.size());
        Ship s = ships.get(ferry);
        state(s.seated.contains(traveller) && !away.contains(traveller) && hour >= s.hour - 3 && hour < s.hour);
        for (Ship other : ships) {
            state(hour >= other.hour || !other.aboard.contains(traveller));
        }
        s.aboard.add(traveller);
        return s.aboard.size();
    }

    int stamp(int receipt, int ferry) {
        index(receipt, bills.size());
        index(ferry, ships.size());
        Bill b = bills.get(receipt);
        Ship s = ships.get(ferry);
        state(b.state == 0 && b.price >= 50 && s.seated.contains(b.traveller));
        state(s.hour - hour <= 12 && hour < s.hour);
        b.state = 1;
        b.ferry = ferry;
        events.add(new Event("stamp", receipt, ferry, b.traveller, null));
        return b.tax;
    }

    int check(int receipt, boolean there) {
        index(receipt, bills.size());
        Bill b = bills.get(receipt);
        state(b.state == 1);
        if (!there) {
            b.state = 3;
            fines.merge(b.traveller, 50, Integer::sum);
            events.add(new Event("void", receipt, -1, b.traveller, null));
        }
        return b.state;
    }

    int comeBack(int traveller) {
        index(traveller, 10);
        state(away.remove(traveller));
        return departures.get(traveller);
    }

    int pass(int hours) {
        range(hours, 1, 100);
        state(hour + hours <= 10000);
        int end = hour + hours;
        while (hour < end) {
            hour++;
            for (int ferry = 0; ferry < ships.size(); ferry++) {
                if (ships.get(ferry).hour == hour) {
                    sail(ferry, ships.get(ferry));
                }
            }
        }
        return hour;
    }

    private void sail(int ferry, Ship s) {
        events.add(new Event("sail", -1, ferry, -1, new HashSet<>(s.aboard)));
        for (int traveller : s.seated) {
            (s.aboard.contains(traveller) ? departures : missed).merge(traveller, 1, Integer::sum);
        }
        away.addAll(s.aboard);
        int[] paid = new int[10];
        for (Bill b : bills) {
            if (b.state != 1 || b.ferry != ferry) {
                continue;
            }
            if (s.aboard.contains(b.traveller)) {
                b.state = 2;
                b.refund = Math.min(b.tax - (int) Math.ceil(b.tax / 10.0), 500 - paid[b.traveller]);
                paid[b.traveller] += b.refund;
            } else {
                b.wasted++;
                b.state = b.wasted == 2 ? 3 : 0;
            }
        }
    }

    int ofReceipt(int receipt, int what) {
        index(receipt, bills.size());
        range(what, 0, 3);
        Bill b = bills.get(receipt);
        return new int[] {b.state, b.tax, b.refund, b.state == 1 || b.state == 2 ? b.ferry : -1}[what];
    }

    int code(int receipt, int place) {
        index(receipt, bills.size());
        if (place < 0) {
            throw new IndexOutOfBoundsException();
        }
        String code = "R" + receipt + "-" + new StringBuilder(String.valueOf(bills.get(receipt).tax)).reverse();
        return place < code.length() ? code.charAt(place) : 0;
    }

    int ofTraveller(int traveller, int what) {
        index(traveller, 10);
        range(what, 0, 3);
        int refunds = bills.stream().filter(b -> b.traveller == traveller).mapToInt(b -> b.refund).sum();
        return new int[] {refunds, fines.getOrDefault(traveller, 0), missed.getOrDefault(traveller, 0),
            away.contains(traveller) ? 1 : 0}[what];
    }

    // Goes through all that happened once more, with nothing but the taxes and owners of receipts.
    int refundsAnew(int traveller) {
        index(traveller, 10);
        Map<Integer, Integer> stamps = new HashMap<>();
        int sum = 0;
        for (Event e : events) {
            switch (e.kind) {
                case "stamp" -> stamps.put(e.receipt, e.ferry);
                case "void" -> stamps.remove(e.receipt);
                case "leave" -> stamps.entrySet().removeIf(
                    s -> s.getValue() == e.ferry && bills.get(s.getKey()).traveller == e.traveller);
                default -> {
                    int room = 500;
                    for (int receipt = 0; receipt < bills.size(); receipt++) {
                        boolean held = stamps.remove(receipt, e.ferry);
                        Bill b = bills.get(receipt);
                        if (held && b.traveller == traveller && e.aboard.contains(traveller)) {
                            int refund = Math.min(room, b.tax * 9 / 10);
                            room -= refund;
                            sum += refund;
                        }
                    }
                }
            }
        }
        return sum;
    }

    int debt(int shop) {
        index(shop, 5);
        return bills.stream().filter(b -> b.shop == shop && b.state != 4).mapToInt(b -> b.tax).sum();
    }

    private static void index(int number, int count) {
        if (number < 0 || number >= count) {
            throw new IndexOutOfBoundsException();
        }
    }

    private static void range(int number, int low, int high) {
        if (number < low || number > high) {
            throw new IllegalArgumentException();
        }
    }

    private static void state(boolean holds) {
        if (!holds) {
            throw new IllegalStateException();
        }
    }
}
