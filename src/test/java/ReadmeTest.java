import java.io.IOException;
import java.lang.reflect.Method;
import java.lang.reflect.Modifier;
import java.nio.file.Files;
import java.nio.file.Path;

/** README.md tells the truth: its example answers what its comments say, and its table names every call. */
public final class ReadmeTest {
    private static final Path README = Path.of("README.md");
    private static final Path THIS = Path.of("src/test/java/ReadmeTest.java");
    private static final String INDENT = "        ";

    private static int wrong = 0;

    private static void due(String what, Object want, Object got) {
        if (!want.equals(got)) {
            wrong++;
            System.out.println("readme: " + what + " is " + got + ", due is " + want);
        }
    }

    /** The lines between the marks are those of the example, so that what is tested here is what is written there. */
    private static void example() {
        // the example begins
        MinutePawnshop shop = new MinutePawnshop();
        int first = shop.pledge(0, 60, 5);      // customer 0, 60 minutes, due in 5 days: ticket 0
        int second = shop.pledge(1, 30, 2);     // ticket 1
        shop.passDays(2);
        int debt = shop.redeem(first);          // the loan of 120 coins and 2 coins of interest: 122
        int forfeited = shop.passDays(1);       // the due day of ticket 1 is over, so it becomes a lot: 1

        shop.bid(second, 0, 75);
        shop.bid(second, 3, 80);
        int buyer = shop.buyerOf(second);       // who would get the lot alone: bidder 3
        int price = shop.sell(second);          // the highest bid of the others: 75
        shop.undo();                            // the lot and its bids are there again
        int together = shop.sellEvening();      // in an evening the buyers pay their own bids: 80

        for (char c : "pledge 1 50 3;days 4;bid 2 2 150".toCharArray()) {
            shop.type(c);
        }
        int commands = shop.execute();          // all commands of the program or none: 3
        int length = shop.writeSlip(2);         // "#2 50min 100c lot 2:150"
        // the example ends
        due("first", 0, first);
        due("second", 1, second);
        due("debt", 122, debt);
        due("forfeited", 1, forfeited);
        due("buyer", 3, buyer);
        due("price", 75, price);
        due("together", 80, together);
        due("commands", 3, commands);
        due("the slip", "#2 50min 100c lot 2:150", slip(shop, length));
    }

    private static String slip(MinutePawnshop shop, int length) {
        StringBuilder slip = new StringBuilder();
        for (int i = 0; i < length; i++) {
            slip.append(shop.slipAt(i));
        }
        return slip.toString();
    }

    private static String between(String text, String begin, String end) {
        int from = text.indexOf(begin);
        int to = from < 0 ? -1 : text.indexOf(end, from + begin.length());
        return to < 0 ? "nothing" : text.substring(from + begin.length(), to);
    }

    private static String exampleTestedHere() throws IOException {
        String begin = "// the example begins" + "\n";
        return between(Files.readString(THIS), begin, INDENT + "// the example ends").replaceAll("(?m)^" + INDENT, "");
    }

    public static void main(String[] args) throws IOException {
        String readme = Files.readString(README);
        example();
        due("the example", exampleTestedHere(), between(readme, "```java\n", "```"));
        String table = between(readme, "\n|---|---|---|\n", "\n\n");
        for (Method method : MinutePawnshop.class.getDeclaredMethods()) {
            boolean isCall = Modifier.isPublic(method.getModifiers());
            due("the table's " + method.getName(), true, !isCall || table.contains("`" + method.getName() + "`"));
        }
        System.out.println(wrong == 0 ? "the readme is as due" : wrong + " faults of the readme");
        if (wrong != 0) {
            System.exit(1);
        }
    }
}
