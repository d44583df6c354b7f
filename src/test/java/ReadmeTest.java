import java.io.IOException;
import java.nio.file.Files;
import java.nio.file.Path;
import java.util.List;

/** README.md: its example answers as it says there, and it names each call of the face. */
public final class ReadmeTest {
    private static final List<String> CALLS = List.of("rate(kind, rate)", "buy(shop, traveller, kind, price)",
        "giveBack(receipt)", "ferry(hour, seats)", "seat(traveller, ferry)", "leaveSeat(traveller, ferry)",
        "aboard(traveller, ferry)", "stamp(receipt, ferry)", "check(receipt, there)", "comeBack(traveller)",
        "pass(hours)", "ofReceipt(receipt, what)", "code(receipt, place)", "ofTraveller(traveller, what)",
        "refundsAnew(traveller)", "debt(shop)");

    private static final List<String> EXAMPLE = List.of(
        "Ferrytax customs = new Ferrytax();",
        "int receipt = customs.buy(0, 3, 1, 505);",
        "int ferry = customs.ferry(2, 5);",
        "customs.seat(3, ferry);",
        "customs.stamp(receipt, ferry);",
        "customs.aboard(3, ferry);",
        "customs.pass(2);",
        "int refund = customs.ofReceipt(receipt, 2);");

    private static final Due due = new Due();

    public static void main(String[] args) throws IOException {
        example();
        String readme = Files.readString(Path.of("README.md"));
        for (String call : CALLS) {
            if (!readme.contains("`" + call + "`")) {
                due.report("README.md does not name " + call);
            }
        }
        int from = 0;
        for (String line : EXAMPLE) {
            int found = readme.indexOf(line, from);
            if (found < 0) {
                due.report("README.md does not have in its place " + line);
            } else {
                from = found;
            }
        }
        due.end();
    }

    private static void example() {
        Ferrytax customs = new Ferrytax();
        int receipt = customs.buy(0, 3, 1, 505);
        due.is("the tax", customs.ofReceipt(receipt, 1), 50);
        int ferry = customs.ferry(2, 5);
        due.is("the seats left", customs.seat(3, ferry), 4);
        due.is("the tax by the stamp", customs.stamp(receipt, ferry), 50);
        due.is("how many are aboard", customs.aboard(3, ferry), 1);
        due.is("the hour", customs.pass(2), 2);
        due.is("the refund", customs.ofReceipt(receipt, 2), 45);
    }
}
