/** Every promise by hand: ordinary inputs, the edges that the document names, and wrong inputs. */
public final class PromisesTest {
    private static final String ARGUMENT = "throws IllegalArgumentException";
    private static final String STATE = "throws IllegalStateException";
    private static final String UNSUPPORTED = "throws UnsupportedOperationException";
    private static final String NO_ELEMENT = "throws NoSuchElementException";
    private static final String INDEX = "throws IndexOutOfBoundsException";
    private static final String ARITHMETIC = "throws ArithmeticException";

    interface Call {
        Object answer();
    }

    private static int promise = 0;
    private static int wrong = 0;
    private static MinutePawnshop x = new MinutePawnshop();

    private static void begin(int number) {
        promise = number;
        x = new MinutePawnshop();
    }

    private static Object answerOf(Call call) {
        try {
            return call.answer();
        } catch (RuntimeException e) {
            return "throws " + e.getClass().getSimpleName();
        }
    }

    private static void due(String what, Object want, Call call) {
        Object got = answerOf(call);
        if (!want.equals(got)) {
            wrong++;
            System.out.println("promise " + promise + ": " + what + " answered " + got + ", due is " + want);
        }
    }

    /** The call must throw, and leave everything as it was. */
    private static void refused(String what, String want, Call call) {
        String before = view();
        due(what, want, call);
        due(what + " changes nothing", before, PromisesTest::view);
    }

    /** Everything that undo and restore bring back, but for the next ticket. */
    private static String view() {
        StringBuilder view = new StringBuilder();
        view.append(x.day()).append(' ').append(x.price()).append(' ').append(x.coins());
        for (int weekday = 0; weekday < 7; weekday++) {
            view.append(' ').append(x.rateOf(weekday));
        }
        for (int i = 0; i < x.pledgeCount(); i++) {
            int ticket = x.pledgeAt(i);
            view.append("; ").append(ticket).append(' ').append(x.customerOf(ticket)).append(' ')
                    .append(x.minutesOf(ticket)).append(' ').append(x.loanOf(ticket)).append(' ')
                    .append(x.dueDayOf(ticket)).append(' ').append(x.interestOf(ticket)).append(' ')
                    .append(x.debtAfter(ticket, 90));
        }
        for (int i = 0; i < x.lotCount(); i++) {
            int lot = x.lotAt(i);
            view.append("; lot ").append(lot).append(' ').append(x.minutesOf(lot)).append(' ').append(x.loanOf(lot));
            for (int bidder = 0; bidder < 5; bidder++) {
                view.append(' ').append(x.bidOf(lot, bidder));
            }
        }
        view.append("; ").append(x.redeemedMinutes()).append(' ').append(x.forfeitedMinutes()).append(' ')
                .append(x.soldMinutes()).append(' ').append(x.pledgedMinutes()).append(' ').append(x.coinsByAccounts());
        return view.toString();
    }

    private static void type(String text) {
        for (int i = 0; i < text.length(); i++) {
            x.type(text.charAt(i));
        }
    }

    private static Object execute(String text) {
        type(text);
        return x.execute();
    }

    private static void malformed(String text, int position) {
        refused("the program '" + text + "'", ARGUMENT, () -> execute(text));
        due("errorPosition after '" + text + "'", position, () -> x.errorPosition());
    }

    private static void failing(String text, int index) {
        refused("the program '" + text + "'", STATE, () -> execute(text));
        due("failedCommand after '" + text + "'", index, () -> x.failedCommand());
    }

    private static String slip() {
        StringBuilder slip = new StringBuilder();
        for (int i = 0; i < 100; i++) {
            int index = i;
            Object character = answerOf(() -> x.slipAt(index));
            if (INDEX.equals(character)) {
                return slip.toString();
            }
            slip.append(character);
        }
        return slip.toString();
    }

    /** Lots with the tickets from the next one on, of the minutes given, at the price of the present. */
    private static void makeLots(int... minutes) {
        for (int m : minutes) {
            x.pledge(0, m, 1);
        }
        x.passDays(2);
    }

    // ---- pledges

    private static void promise1() {
        begin(1);
        due("state", "0 2 2000 1 1 1 1 1 1 1; 0 0 0 0 2000", PromisesTest::view);
        due("pledgeCount", 0, () -> x.pledgeCount());
        due("lotCount", 0, () -> x.lotCount());
        due("first ticket", 0, () -> x.pledge(0, 1, 1));
    }

    private static void promise2() {
        begin(2);
        int[][] wrongArguments = {{-1, 1, 1}, {6, 1, 1}, {0, 0, 1}, {0, 241, 1}, {0, 1, 0}, {0, 1, 61},
            {Integer.MIN_VALUE, 1, 1}, {0, Integer.MAX_VALUE, 1}, {0, 1, Integer.MAX_VALUE}, {0, -1, 1}, {0, 1, -1}};
        for (int[] a : wrongArguments) {
            refused("pledge", ARGUMENT, () -> x.pledge(a[0], a[1], a[2]));
        }
        due("pledge", 0, () -> x.pledge(5, 240, 60));
        due("pledge", 1, () -> x.pledge(0, 1, 1));
        due("state", "0 2 1518 1 1 1 1 1 1 1; 0 5 240 480 60 0 912; 1 0 1 2 1 0 3; 0 0 0 241 1518", PromisesTest::view);
        x.setPrice(9);
        refused("more than the coins", UNSUPPORTED, () -> x.pledge(0, 169, 1));
        due("nearly all coins", 2, () -> x.pledge(0, 168, 1));
        due("coins", 6, () -> x.coins());
        x.setPrice(2);
        refused("a coin too few", UNSUPPORTED, () -> x.pledge(0, 4, 1));
        due("all coins", 3, () -> x.pledge(0, 3, 1));
        due("coins", 0, () -> x.coins());
        refused("no coins", UNSUPPORTED, () -> x.pledge(0, 1, 1));

        begin(2);
        for (int i = 0; i < 10; i++) {
            int ticket = i;
            due("ticket", ticket, () -> x.pledge(ticket % 6, 99, 1 + ticket));
        }
        refused("an eleventh", STATE, () -> x.pledge(0, 1, 1));
        refused("full and too dear", STATE, () -> x.pledge(0, 240, 1));
        refused("full and out of range", ARGUMENT, () -> x.pledge(6, 1, 1));
        x.passDays(5);
        refused("pledges and lots together", STATE, () -> x.pledge(0, 1, 1));
        x.bid(3, 0, 999);
        x.sell(3);
        due("after a sale", 10, () -> x.pledge(1, 1, 1));
        refused("full again", STATE, () -> x.pledge(0, 1, 1));
        x.redeem(9);
        due("after a redemption", 11, () -> x.pledge(1, 1, 1));
    }

    private static void promise3() {
        begin(3);
        x.pledge(0, 60, 5);
        x.pledge(1, 50, 5);
        refused("redeem", NO_ELEMENT, () -> x.redeem(-1));
        refused("redeem", NO_ELEMENT, () -> x.redeem(2));
        x.passDays(5);
        due("redeem", 126, () -> x.redeem(0));
        due("coins", 1906, () -> x.coins());
        due("pledgeCount", 1, () -> x.pledgeCount());
        refused("redeem again", NO_ELEMENT, () -> x.redeem(0));
        due("redeemedMinutes", 60, () -> x.redeemedMinutes());
        x.passDays(1);
        refused("redeem a lot", NO_ELEMENT, () -> x.redeem(1));
        due("ticket", 2, () -> x.pledge(1, 50, 5));
        due("redeem on the first day", 100, () -> x.redeem(2));
    }

    private static void promise4() {
        begin(4);
        x.pledge(0, 100, 5);
        x.passDays(5);
        refused("extend", ARGUMENT, () -> x.extend(0, 0));
        refused("extend", ARGUMENT, () -> x.extend(0, 61));
        refused("extend", ARGUMENT, () -> x.extend(0, Integer.MIN_VALUE));
        refused("extend", NO_ELEMENT, () -> x.extend(1, 1));
        refused("extend, both wrong", NO_ELEMENT, () -> x.extend(1, 0));
        due("extend", 10, () -> x.extend(0, 60));
        due("coins", 1810, () -> x.coins());
        due("dueDayOf", 65, () -> x.dueDayOf(0));
        due("interestOf", 0, () -> x.interestOf(0));
        due("loanOf", 200, () -> x.loanOf(0));
        due("again at once", 0, () -> x.extend(0, 1));
        due("dueDayOf", 6, () -> x.dueDayOf(0));
        x.passDays(1);
        due("interestOf", 2, () -> x.interestOf(0));
        x.passDays(1);
        refused("extend a lot", NO_ELEMENT, () -> x.extend(0, 1));
    }

    private static void promise5() {
        begin(5);
        x.pledge(0, 10, 1);
        x.pledge(0, 20, 3);
        x.pledge(0, 30, 3);
        x.pledge(0, 40, 60);
        refused("passDays", ARGUMENT, () -> x.passDays(0));
        refused("passDays", ARGUMENT, () -> x.passDays(91));
        refused("passDays", ARGUMENT, () -> x.passDays(-1));
        due("to the due day", 0, () -> x.passDays(1));
        due("beyond it", 1, () -> x.passDays(1));
        due("lotAt", 0, () -> x.lotAt(0));
        due("no bids yet", 0, () -> x.bidOf(0, 0));
        due("two at once", 2, () -> x.passDays(2));
        due("the last", 1, () -> x.passDays(90));
        due("day", 94, () -> x.day());
        due("forfeitedMinutes", 100, () -> x.forfeitedMinutes());
        due("none", 0, () -> x.passDays(1));
    }

    private static void promise6() {
        begin(6);
        refused("setPrice", ARGUMENT, () -> x.setPrice(0));
        refused("setPrice", ARGUMENT, () -> x.setPrice(10));
        refused("setPrice", ARGUMENT, () -> x.setPrice(-1));
        x.pledge(0, 10, 1);
        due("setPrice", 2, () -> x.setPrice(9));
        due("setPrice", 9, () -> x.setPrice(1));
        due("price", 1, () -> x.price());
        due("the loan before", 20, () -> x.loanOf(0));
        x.pledge(0, 10, 1);
        due("the loan after", 10, () -> x.loanOf(1));
    }

    private static void promise7() {
        begin(7);
        int[][] wrongArguments = {{-1, 0}, {7, 0}, {0, -1}, {0, 10}, {Integer.MAX_VALUE, 1}, {1, Integer.MIN_VALUE}};
        for (int[] a : wrongArguments) {
            refused("setRate", ARGUMENT, () -> x.setRate(a[0], a[1]));
        }
        x.pledge(0, 50, 20);
        x.passDays(9);
        due("interestOf", 9, () -> x.interestOf(0));
        due("setRate", 1, () -> x.setRate(2, 9));
        due("setRate", 9, () -> x.setRate(2, 0));
        due("days that have passed", 7, () -> x.interestOf(0));
        due("setRate", 1, () -> x.setRate(0, 9));
        due("day 7 alone", 15, () -> x.interestOf(0));
        due("setRate", 1, () -> x.setRate(6, 9));
        due("day 6 alone", 23, () -> x.interestOf(0));
    }

    private static void promises8To12() {
        begin(8);
        due("day", 0, () -> x.day());
        x.passDays(90);
        x.passDays(1);
        due("day", 91, () -> x.day());
        begin(9);
        due("price", 2, () -> x.price());
        x.setPrice(7);
        due("price", 7, () -> x.price());
        begin(10);
        due("rateOf", 1, () -> x.rateOf(0));
        x.setRate(6, 4);
        due("rateOf", 4, () -> x.rateOf(6));
        due("rateOf", 1, () -> x.rateOf(5));
        refused("rateOf", ARGUMENT, () -> x.rateOf(-1));
        refused("rateOf", ARGUMENT, () -> x.rateOf(7));
        for (int number = 11; number <= 12; number++) {
            begin(number);
            coinsThroughAll();
        }
    }

    private static void coinsThroughAll() {
        dueCoins(2000);
        x.pledge(0, 100, 10);
        x.pledge(0, 50, 1);
        dueCoins(1700);
        x.passDays(5);
        dueCoins(1700);
        x.extend(0, 1);
        dueCoins(1710);
        x.passDays(1);
        x.redeem(0);
        dueCoins(1912);
        x.bid(1, 2, 150);
        dueCoins(1912);
        x.sell(1);
        dueCoins(2012);
        makeLots(10);
        x.bid(2, 2, 150);
        x.sellEvening();
        dueCoins(2142);
    }

    private static void dueCoins(int coins) {
        due("coins", coins, () -> promise == 11 ? x.coins() : x.coinsByAccounts());
    }

    private static void promises13To19() {
        begin(13);
        due("pledgeCount", 0, () -> x.pledgeCount());
        x.pledge(3, 10, 4);
        x.pledge(4, 20, 1);
        x.pledge(5, 30, 9);
        x.pledge(0, 40, 4);
        due("pledgeCount", 4, () -> x.pledgeCount());
        x.passDays(2);
        due("pledgeCount without the lot", 3, () -> x.pledgeCount());

        promise = 14;
        due("pledgeAt", 0, () -> x.pledgeAt(0));
        due("pledgeAt over the lot", 2, () -> x.pledgeAt(1));
        due("pledgeAt", 3, () -> x.pledgeAt(2));
        refused("pledgeAt", INDEX, () -> x.pledgeAt(3));
        refused("pledgeAt", INDEX, () -> x.pledgeAt(-1));

        promise = 15;
        due("customerOf", 3, () -> x.customerOf(0));
        due("customerOf", 5, () -> x.customerOf(2));
        refused("customerOf a lot", NO_ELEMENT, () -> x.customerOf(1));
        refused("customerOf", NO_ELEMENT, () -> x.customerOf(4));

        promise = 16;
        due("minutesOf", 10, () -> x.minutesOf(0));
        due("minutesOf a lot", 20, () -> x.minutesOf(1));
        refused("minutesOf", NO_ELEMENT, () -> x.minutesOf(4));
        refused("minutesOf", NO_ELEMENT, () -> x.minutesOf(-1));

        promise = 17;
        due("loanOf", 60, () -> x.loanOf(2));
        due("loanOf a lot", 40, () -> x.loanOf(1));
        refused("loanOf", NO_ELEMENT, () -> x.loanOf(4));

        promise = 18;
        due("dueDayOf", 9, () -> x.dueDayOf(2));
        refused("dueDayOf a lot", NO_ELEMENT, () -> x.dueDayOf(1));
        refused("dueDayOf", NO_ELEMENT, () -> x.dueDayOf(4));
        x.pledge(1, 5, 2);
        due("dueDayOf from the present day on", 4, () -> x.dueDayOf(4));

        promise = 19;
        x.pledge(1, 5, 1);
        int[] order = {5, 0, 3, 4, 2};
        for (int place = 0; place < order.length; place++) {
            int asked = place;
            due("pledgeByDueDay " + place, order[place], () -> x.pledgeByDueDay(asked));
        }
        refused("pledgeByDueDay", NO_ELEMENT, () -> x.pledgeByDueDay(5));
        refused("pledgeByDueDay", NO_ELEMENT, () -> x.pledgeByDueDay(-1));
    }

    // ---- interest and redemptions

    private static void promises20To23() {
        for (int number = 20; number <= 21; number++) {
            begin(number);
            interestThroughWeeks();
        }
        begin(22);
        x.passDays(3);
        x.pledge(0, 50, 10);
        x.setRate(4, 5);
        due("debtAfter", 100, () -> x.debtAfter(0, 0));
        due("debtAfter", 105, () -> x.debtAfter(0, 1));
        due("debtAfter", 111, () -> x.debtAfter(0, 7));
        due("debtAfter", 242, () -> x.debtAfter(0, 90));
        refused("debtAfter", ARGUMENT, () -> x.debtAfter(0, -1));
        refused("debtAfter", ARGUMENT, () -> x.debtAfter(0, 91));
        refused("debtAfter", NO_ELEMENT, () -> x.debtAfter(1, 0));
        refused("debtAfter, both wrong", NO_ELEMENT, () -> x.debtAfter(1, 91));
        x.passDays(2);
        due("debtAfter", 107, () -> x.debtAfter(0, 1));
        x.passDays(9);
        refused("debtAfter of a lot", NO_ELEMENT, () -> x.debtAfter(0, 0));

        begin(23);
        due("cheapestWeekday", 0, () -> x.cheapestWeekday());
        x.passDays(5);
        due("the present day of several", 5, () -> x.cheapestWeekday());
        x.setRate(5, 2);
        due("the next one", 6, () -> x.cheapestWeekday());
        x.setRate(6, 2);
        due("after the end of the week", 0, () -> x.cheapestWeekday());
        x.setRate(4, 0);
        due("the last one from now on", 4, () -> x.cheapestWeekday());
        x.setRate(2, 0);
        due("the earlier of two", 2, () -> x.cheapestWeekday());
    }

    private static void interestThroughWeeks() {
        refusedInterest(0);
        int[] rates = {3, 1, 4, 1, 5, 9, 2};
        for (int weekday = 0; weekday < 7; weekday++) {
            x.setRate(weekday, rates[weekday]);
        }
        x.passDays(2);
        x.pledge(0, 75, 60);
        int[] interests = {0, 1, 9, 22, 25, 30, 31, 37, 39, 46};
        for (int days = 0; days < interests.length; days++) {
            int want = interests[days];
            due("after " + days + " days", want, () -> promise == 20 ? x.interestOf(0) : x.interestByWeeks(0));
            x.passDays(1);
        }
        x.passDays(50);
        due("at its due day", 325, () -> promise == 20 ? x.interestOf(0) : x.interestByWeeks(0));
        x.passDays(1);
        refusedInterest(0);
        refusedInterest(-1);
    }

    private static void refusedInterest(int ticket) {
        refused("no such pledge", NO_ELEMENT, () -> promise == 20 ? x.interestOf(ticket) : x.interestByWeeks(ticket));
    }

    private static Object most(int customer, int coins) {
        return promise == 24 ? x.mostMinutes(customer, coins) : x.mostMinutesByTable(customer, coins);
    }

    private static void promises24And25() {
        for (int number = 24; number <= 25; number++) {
            begin(number);
            due("no pledges", 0, () -> most(0, 9999));
            x.pledge(0, 60, 50);
            x.setPrice(1);
            x.pledge(0, 50, 50);
            x.pledge(0, 40, 50);
            x.pledge(1, 200, 50);
            x.pledge(0, 10, 1);
            x.passDays(2);
            due("no coins", 0, () -> most(0, 0));
            due("a coin too few for one", 0, () -> most(0, 39));
            due("enough for one", 40, () -> most(0, 40));
            due("the two cheap ones", 90, () -> most(0, 91));
            due("one coin less", 50, () -> most(0, 90));
            due("the dear one is passed over", 90, () -> most(0, 161));
            due("the dear one and the small one", 100, () -> most(0, 162));
            due("the dear one and the other", 110, () -> most(0, 173));
            due("all, and no lot", 150, () -> most(0, 9999));
            due("just all", 150, () -> most(0, 213));
            due("just not all", 110, () -> most(0, 212));
            due("another customer", 200, () -> most(1, 204));
            due("a customer without pledges", 0, () -> most(5, 9999));
            refused("customer", ARGUMENT, () -> most(-1, 0));
            refused("customer", ARGUMENT, () -> most(6, 0));
            refused("coins", ARGUMENT, () -> most(0, -1));
            refused("coins", ARGUMENT, () -> most(0, 10000));
            refused("both", ARGUMENT, () -> most(Integer.MIN_VALUE, Integer.MAX_VALUE));

            begin(number);
            x.setPrice(1);
            for (int i = 0; i < 10; i++) {
                x.pledge(2, 200, 60);
            }
            due("ten pledges", 2000, () -> most(2, 2000));
            due("ten pledges, nine redeemed", 1800, () -> most(2, 1999));

            begin(number);
            makeLots(1);
            x.bid(0, 0, 999);
            x.sellEvening();
            x.setPrice(1);
            for (int i = 0; i < 10; i++) {
                x.pledge(3, 240, 60);
            }
            due("as many minutes as can be", 2400, () -> most(3, 9999));
            due("as many minutes, a coin too few", 2160, () -> most(3, 2399));
        }
    }

    private static void promises26And27() {
        begin(26);
        due("debtOf", 0, () -> x.debtOf(0));
        x.pledge(0, 60, 5);
        x.pledge(0, 30, 1);
        x.pledge(5, 55, 5);
        x.passDays(1);
        due("debtOf", 181, () -> x.debtOf(0));
        due("debtOf", 111, () -> x.debtOf(5));
        x.passDays(1);
        due("debtOf without the lot", 122, () -> x.debtOf(0));
        due("debtOf", 0, () -> x.debtOf(3));
        refused("debtOf", ARGUMENT, () -> x.debtOf(-1));
        refused("debtOf", ARGUMENT, () -> x.debtOf(6));

        begin(27);
        refused("daysToForfeit", NO_ELEMENT, () -> x.daysToForfeit());
        x.pledge(0, 60, 5);
        x.pledge(0, 30, 2);
        due("daysToForfeit", 3, () -> x.daysToForfeit());
        x.passDays(2);
        due("on the due day", 1, () -> x.daysToForfeit());
        due("then it is forfeited", 1, () -> x.passDays(1));
        due("the next one", 3, () -> x.daysToForfeit());
        x.extend(0, 60);
        due("extended", 61, () -> x.daysToForfeit());
        x.passDays(61);
        refused("only lots", NO_ELEMENT, () -> x.daysToForfeit());
    }

    // ---- auctions

    private static void promise28() {
        begin(28);
        makeLots(30);
        x.pledge(0, 10, 9);
        int[][] wrongArguments = {{0, -1, 1}, {0, 5, 1}, {0, 0, 0}, {0, 0, 1000}, {0, 0, -1},
            {0, Integer.MAX_VALUE, 1}, {0, 0, Integer.MIN_VALUE}};
        for (int[] a : wrongArguments) {
            refused("bid", ARGUMENT, () -> x.bid(a[0], a[1], a[2]));
        }
        refused("bid for a pledge", NO_ELEMENT, () -> x.bid(1, 0, 1));
        refused("bid for none", NO_ELEMENT, () -> x.bid(2, 0, 1));
        refused("bid, all wrong", NO_ELEMENT, () -> x.bid(2, 5, 0));
        due("bid", 0, () -> x.bid(0, 0, 1));
        due("bid", 0, () -> x.bid(0, 4, 999));
        due("in place of the bid before", 999, () -> x.bid(0, 4, 5));
        due("bidOf", 5, () -> x.bidOf(0, 4));
        due("bidOf", 1, () -> x.bidOf(0, 0));
    }

    private static void promise29() {
        begin(29);
        makeLots(30, 40, 50);
        x.pledge(0, 10, 9);
        refused("sell a pledge", NO_ELEMENT, () -> x.sell(3));
        refused("sell", NO_ELEMENT, () -> x.sell(4));
        refused("no bids", STATE, () -> x.sell(0));
        x.bid(0, 1, 59);
        refused("too low", STATE, () -> x.sell(0));
        x.bid(0, 2, 60);
        due("the loan at least", 60, () -> x.sell(0));
        refused("sold", NO_ELEMENT, () -> x.sell(0));
        due("the bids are gone", NO_ELEMENT, () -> x.bidOf(0, 1));
        due("soldMinutes", 30, () -> x.soldMinutes());
        x.bid(1, 0, 90);
        x.bid(1, 1, 85);
        x.bid(1, 4, 20);
        due("the second bid", 85, () -> x.sell(1));
        x.bid(2, 0, 110);
        x.bid(2, 3, 110);
        due("the same bid", 110, () -> x.sell(2));
        due("coins", 1995, () -> x.coins());
        due("lotCount", 0, () -> x.lotCount());
    }

    private static void promise30() {
        begin(30);
        refused("no lots", STATE, () -> x.sellEvening());
        makeLots(10, 10, 10, 15);
        refused("no bids", STATE, () -> x.sellEvening());
        x.bid(0, 0, 19);
        refused("too low", STATE, () -> x.sellEvening());
        x.bid(0, 0, 50);
        x.bid(0, 1, 45);
        x.bid(1, 0, 48);
        x.bid(1, 1, 20);
        x.bid(2, 1, 19);
        x.bid(3, 4, 999);
        due("sellEvening", 1092, () -> x.sellEvening());
        due("one lot is left", 1, () -> x.lotCount());
        due("it is lot 2", 2, () -> x.lotAt(0));
        due("its bid stays", 19, () -> x.bidOf(2, 1));
        due("soldMinutes", 35, () -> x.soldMinutes());
        due("coins", 3002, () -> x.coins());
        refused("nothing more", STATE, () -> x.sellEvening());
        x.bid(2, 3, 20);
        due("a single lot", 20, () -> x.sellEvening());
    }

    private static void promises31To35() {
        begin(31);
        due("lotCount", 0, () -> x.lotCount());
        x.pledge(0, 30, 1);
        x.pledge(0, 20, 9);
        x.pledge(0, 40, 1);
        due("lotCount", 0, () -> x.lotCount());
        x.passDays(2);
        due("lotCount", 2, () -> x.lotCount());

        promise = 32;
        due("lotAt", 0, () -> x.lotAt(0));
        due("lotAt over the pledge", 2, () -> x.lotAt(1));
        refused("lotAt", INDEX, () -> x.lotAt(2));
        refused("lotAt", INDEX, () -> x.lotAt(-1));

        promise = 33;
        x.bid(2, 3, 70);
        due("bidOf", 70, () -> x.bidOf(2, 3));
        due("no bid", 0, () -> x.bidOf(2, 2));
        due("another lot", 0, () -> x.bidOf(0, 3));
        refused("bidder", ARGUMENT, () -> x.bidOf(2, 5));
        refused("bidder", ARGUMENT, () -> x.bidOf(2, -1));
        refused("a pledge", NO_ELEMENT, () -> x.bidOf(1, 0));
        refused("both wrong", NO_ELEMENT, () -> x.bidOf(5, 5));

        for (int number = 34; number <= 35; number++) {
            begin(number);
            makeLots(30, 40);
            x.pledge(0, 10, 9);
            dueSale(0, NO_ELEMENT, NO_ELEMENT);
            x.bid(0, 3, 59);
            dueSale(0, NO_ELEMENT, NO_ELEMENT);
            x.bid(0, 3, 60);
            dueSale(0, 3, 60);
            x.bid(0, 4, 62);
            dueSale(0, 4, 60);
            x.bid(0, 2, 62);
            dueSale(0, 2, 62);
            x.bid(0, 0, 61);
            dueSale(0, 2, 62);
            x.bid(0, 4, 30);
            dueSale(0, 2, 61);
            dueSale(1, NO_ELEMENT, NO_ELEMENT);
            dueSale(2, NO_ELEMENT, NO_ELEMENT);
            dueSale(-1, NO_ELEMENT, NO_ELEMENT);
        }
    }

    private static void dueSale(int lot, Object buyer, Object price) {
        due("lot " + lot, promise == 34 ? buyer : price, () -> promise == 34 ? x.buyerOf(lot) : x.priceOf(lot));
    }

    private static Object best() {
        return promise == 36 ? x.bestEvening() : x.bestEveningByTrying();
    }

    private static void promises36And37() {
        for (int number = 36; number <= 37; number++) {
            begin(number);
            due("no lots", 0, PromisesTest::best);
            makeLots(10, 10, 10);
            due("no bids", 0, PromisesTest::best);
            x.bid(0, 0, 50);
            due("one bid", 50, PromisesTest::best);
            x.bid(1, 0, 48);
            due("one bidder buys one lot", 50, PromisesTest::best);
            x.bid(0, 1, 45);
            due("together most", 93, PromisesTest::best);
            x.bid(2, 1, 19);
            due("a bid below the loan", 93, PromisesTest::best);
            x.bid(2, 2, 20);
            due("a bid like the loan", 113, PromisesTest::best);
            x.bid(0, 2, 999);
            due("the dear lot alone", 1047, PromisesTest::best);
            x.bid(2, 1, 20);
            due("the other buys the rest", 1067, PromisesTest::best);

            begin(number);
            makeLots(1, 1, 1, 1, 1, 1, 1, 1, 1, 1);
            for (int lot = 0; lot < 10; lot++) {
                for (int bidder = 0; bidder < 5; bidder++) {
                    x.bid(lot, bidder, 10 + lot);
                }
            }
            due("five bidders buy the dearest five of ten", 85, PromisesTest::best);
        }
    }

    private static void dueBuyers(Object... buyers) {
        for (int lot = 0; lot < buyers.length; lot++) {
            int asked = lot;
            due("lot " + lot, buyers[lot] == null ? NO_ELEMENT : buyers[lot], () -> x.eveningBuyerOf(asked));
        }
    }

    private static void promise38() {
        begin(38);
        dueBuyers((Object) null);
        makeLots(10, 10, 10);
        x.pledge(0, 10, 9);
        dueBuyers(null, null, null, null);
        x.bid(0, 3, 30);
        x.bid(1, 3, 30);
        dueBuyers(3, null, null, null);
        x.bid(1, 4, 30);
        dueBuyers(3, 4, null, null);
        x.bid(0, 4, 30);
        dueBuyers(3, 4, null, null);
        x.bid(0, 1, 30);
        dueBuyers(1, 3, null, null);
        x.bid(2, 1, 30);
        dueBuyers(3, 4, 1, null);
        x.bid(2, 4, 25);
        dueBuyers(3, 4, 1, null);
        x.bid(2, 3, 31);
        dueBuyers(1, 4, 3, null);
        due("no such lot", NO_ELEMENT, () -> x.eveningBuyerOf(-1));
        x.sellEvening();
        dueBuyers(null, null, null, null);
    }

    // ---- accounts

    private static void promises39To44() {
        for (int number = 39; number <= 44; number++) {
            begin(number);
            dueAccounts(0, 0, 0, 0L, ARITHMETIC);
            x.pledge(0, 60, 1);
            x.setPrice(3);
            x.pledge(0, 35, 20);
            x.pledge(1, 40, 20);
            dueAccounts(0, 0, 0, 135L, 115.0);
            x.passDays(2);
            dueAccounts(0, 60, 0, 135L, 112.5);
            x.extend(1, 9);
            dueAccounts(0, 60, 0, 135L, 112.5);
            x.redeem(1);
            dueAccounts(35, 60, 0, 135L, 120.0);
            x.bid(0, 0, 200);
            x.sell(0);
            dueAccounts(35, 60, 60, 135L, 120.0);
            x.pledge(2, 40, 1);
            x.pledge(2, 40, 1);
            x.pledge(2, 1, 1);
            dueAccounts(35, 60, 60, 216L, 90.75);
            x.passDays(2);
            dueAccounts(35, 141, 60, 216L, 120.0);
            x.bid(3, 1, 120);
            x.bid(4, 2, 500);
            x.sellEvening();
            dueAccounts(35, 141, 140, 216L, 120.0);
            x.passDays(90);
            dueAccounts(35, 181, 140, 216L, ARITHMETIC);
            x.undo();
            x.undo();
            dueAccounts(35, 141, 60, 216L, 120.0);
        }
        begin(43);
        x.setPrice(1);
        x.pledge(0, 1, 9);
        x.pledge(0, 1, 9);
        x.pledge(0, 2, 9);
        due("not a whole number", 4.0 / 3.0, () -> x.meanLoan());
    }

    private static void dueAccounts(int redeemed, int forfeited, int sold, long pledged, Object mean) {
        Object[] wanted = {redeemed, forfeited, sold, pledged, mean, true};
        due("the account", wanted[promise - 39], PromisesTest::account);
    }

    private static Object account() {
        switch (promise) {
            case 39: return x.redeemedMinutes();
            case 40: return x.forfeitedMinutes();
            case 41: return x.soldMinutes();
            case 42: return x.pledgedMinutes();
            case 43: return x.meanLoan();
            default: return x.isConsistent();
        }
    }

    // ---- slip and programs

    private static void dueSlip(int ticket, String text) {
        due("writeSlip", text.length(), () -> x.writeSlip(ticket));
        due("the slip", text, PromisesTest::slip);
    }

    private static void promises45And46() {
        begin(45);
        refused("writeSlip", NO_ELEMENT, () -> x.writeSlip(0));
        x.pledge(0, 30, 2);
        x.pledge(0, 1, 1);
        x.pledge(0, 30, 2);
        x.pledge(0, 60, 14);
        dueSlip(3, "#3 60min 120c by 14");
        x.passDays(2);
        dueSlip(2, "#2 30min 60c by 2?");
        dueSlip(1, "#1 1min 2c lot");
        x.passDays(1);
        x.bid(2, 3, 80);
        x.bid(2, 0, 75);
        dueSlip(2, "#2 30min 60c lot 0:75 3:80");
        x.bid(2, 4, 999);
        x.bid(2, 1, 1);
        x.bid(2, 2, 10);
        dueSlip(2, "#2 30min 60c lot 0:75 1:1 2:10 3:80 4:999");
        refused("writeSlip", NO_ELEMENT, () -> x.writeSlip(4));
        due("the slip before stays", "#2 30min 60c lot 0:75 1:1 2:10 3:80 4:999", PromisesTest::slip);
        x.redeem(3);
        x.pledge(0, 240, 60);
        dueSlip(4, "#4 240min 480c by 63");

        begin(46);
        refused("empty at first", INDEX, () -> x.slipAt(0));
        x.pledge(0, 5, 9);
        x.writeSlip(0);
        due("slipAt", '#', () -> x.slipAt(0));
        due("slipAt", '9', () -> x.slipAt(15));
        refused("behind the end", INDEX, () -> x.slipAt(16));
        refused("before the start", INDEX, () -> x.slipAt(-1));
        x.undo();
        due("undo leaves the slip", "#0 5min 10c by 9", PromisesTest::slip);
    }

    private static void promise47() {
        begin(47);
        refused("type", ARGUMENT, () -> x.type((char) 31));
        refused("type", ARGUMENT, () -> x.type((char) 127));
        refused("type", ARGUMENT, () -> x.type((char) 0));
        refused("type", ARGUMENT, () -> x.type((char) 65535));
        due("type", 1, () -> x.type(' '));
        due("type", 2, () -> x.type('~'));
        for (int i = 3; i <= 60; i++) {
            int length = i;
            due("type", length, () -> x.type('a'));
        }
        refused("full", STATE, () -> x.type('a'));
        refused("full and out of range", ARGUMENT, () -> x.type((char) 31));
        due("execute", ARGUMENT, () -> x.execute());
        due("the buffer is empty", 1, () -> x.type('a'));
    }

    private static void promise48() {
        begin(48);
        due("each of three", 3, () -> execute("pledge 1 50 3;days 4;bid 0 2 150"));
        due("state", "4 2 1900 1 1 1 1 1 1 1; lot 0 50 100 0 0 150 0 0; 0 50 0 50 1900", PromisesTest::view);
        due("the others", 5, () -> execute("price 3;pledge 5 010 60;extend 1 1;rate 6 9;sell 0"));
        due("the rest", 1, () -> execute("redeem 1"));
        due("the evening", 1, () -> {
            makeLots(10);
            x.bid(2, 0, 30);
            return execute("evening");
        });
        due("state", "6 3 2000 1 1 1 1 1 1 9; 10 60 60 70 2000", PromisesTest::view);
        due("seven commands", 7, () -> execute("price 1;price 2;price 3;price 4;price 5;price 6;price 7"));
        due("price", 7, () -> x.price());
        due("eight commands", 8, () -> execute("days 1;days 1;days 1;days 1;days 1;days 1;days 1;days 1"));
        due("leading zeros", 1, () -> execute("days 001"));
        failing("price 9;price 0", 1);
        failing("pledge 0 10 9;redeem 99", 1);
        failing("pledge 6 1 1", 0);
        failing("price 9;pledge 0 240 1", 1);
        failing("days 1;evening;price 3", 1);
        failing("days 91", 0);
        failing("days 1;days 1;days 1;extend 1 1", 3);
        failing("rate 7 1", 0);
        failing("sell 0", 0);
        failing("bid 0 0 0", 0);
        due("the ticket is not used up", 3, () -> x.pledge(0, 1, 1));
        due("a failed program cannot be undone, its state is kept", 7, () -> x.undo());
        due("state", "15 7 2000 1 1 1 1 1 1 9; 10 60 60 70 2000", PromisesTest::view);
        refused("an empty program", ARGUMENT, () -> x.execute());
        due("the whole is one modification", 4, () -> {
            x.save();
            x.restore();
            return execute("price 1;days 1;pledge 1 1 1;redeem 3");
        });
        due("undo", 0, () -> x.undo());
        due("state", "15 7 2000 1 1 1 1 1 1 9; 10 60 60 70 2000", PromisesTest::view);

        begin(48);
        for (int i = 0; i < 10; i++) {
            x.pledge(0, 1, 9);
        }
        failing("redeem 4;pledge 0 1 1;pledge 0 1 1", 2);
        due("pledgeAt", 4, () -> x.pledgeAt(4));
    }

    private static void promise49() {
        begin(49);
        refused("errorPosition", NO_ELEMENT, () -> x.errorPosition());
        malformed("", 0);
        String[] wholes = {"pledge 1 60 7", "redeem 123", "extend 1 60", "days 7", "price 3", "rate 6 9",
            "bid 12 4 999", "sell 4", "evening"};
        for (String whole : wholes) {
            for (int end = 0; end < whole.length(); end++) {
                boolean isWhole = end > 0 && whole.matches(".*[0-9]{2,}") && whole.substring(0, end).matches(".* [0-9]+")
                        && whole.lastIndexOf(' ') < end - 1;
                if (!isWhole) {
                    malformed(whole.substring(0, end), end);
                    malformed(whole.substring(0, end) + "!", end);
                }
            }
            malformed(whole + "!", whole.length());
            malformed(whole + " ", whole.length());
            malformed(whole + ";", whole.length() + 1);
            malformed(whole + ";;", whole.length() + 1);
            malformed(whole + "; ", whole.length() + 1);
            malformed(";" + whole, 0);
            malformed(" " + whole, 0);
            begin(49);
        }
        malformed("rx", 1);
        malformed("px", 1);
        malformed("ea", 1);
        malformed("red 1", 3);
        malformed("Price 1", 0);
        malformed("price 10", 7);
        malformed("price  1", 6);
        malformed("price -1", 6);
        malformed("price #", 6);
        malformed("days *", 5);
        malformed("days 1234", 8);
        malformed("pledge 11 1 1", 8);
        malformed("bid 1 11 1", 7);
        malformed("rate 1 11", 8);
        malformed("rate 1;rate 1 1", 6);
        malformed("pledge 1 1;", 10);
        malformed("evening 1", 7);
        malformed("price 1;price 1;price 1;price 1;price 1;price 1;price 1;pric", 60);
        malformed("days 1;days 1;days 1;days 1;days 1;days 1;days 1;days 1;sell", 60);
        malformed("days 1;days 1;days 1;days 1;days 1;days 1;days 1;days 1;sexx", 58);
        begin(49);
        malformed("days 1;q", 7);
        x.passDays(1);
        execute("days 1");
        failing("days 0", 0);
        due("a good or failing program leaves it", 7, () -> x.errorPosition());
        x.undo();
        due("undo leaves it", 7, () -> x.errorPosition());
        x.save();
        x.restore();
        due("restore leaves it", 7, () -> x.errorPosition());
    }

    private static void promise50() {
        begin(50);
        refused("failedCommand", NO_ELEMENT, () -> x.failedCommand());
        malformed("x", 0);
        refused("malformed is not failed", NO_ELEMENT, () -> x.failedCommand());
        failing("days 1;price 2;redeem 0", 2);
        failing("price 0", 0);
        failing("price 1;price 0", 1);
        execute("price 1");
        malformed("x", 0);
        x.undo();
        x.save();
        x.restore();
        due("failedCommand stays", 1, () -> x.failedCommand());
    }

    // ---- undo and snapshots

    private static void promise51() {
        begin(51);
        refused("undo", STATE, () -> x.undo());
        String[] views = new String[12];
        Call[] modifications = {() -> x.pledge(0, 50, 3), () -> x.pledge(1, 60, 1), () -> x.setRate(3, 7),
            () -> x.passDays(2), () -> x.setPrice(4), () -> x.extend(0, 60), () -> x.bid(1, 2, 200),
            () -> x.sell(1), () -> x.redeem(0), () -> execute("price 7;days 3"), () -> x.setPrice(7)};
        for (int i = 0; i < modifications.length; i++) {
            views[i] = view();
            modifications[i].answer();
            x.save();
            refused("a call that throws is no modification", ARGUMENT, () -> x.setPrice(10));
            refused("a call that throws is no modification", NO_ELEMENT, () -> x.redeem(99));
        }
        for (int left = 7; left >= 0; left--) {
            int number = left;
            due("undo", number, () -> x.undo());
            due("the state before", views[number + 3], PromisesTest::view);
        }
        refused("only eight", STATE, () -> x.undo());
        due("the snapshot is not undone", 5, () -> x.restore());

        begin(51);
        x.pledge(0, 10, 1);
        x.passDays(2);
        x.bid(0, 0, 30);
        x.bid(0, 0, 40);
        x.sellEvening();
        x.pledge(0, 10, 1);
        due("undo a pledge", 5, () -> x.undo());
        due("its ticket is given again", 1, () -> x.pledge(3, 10, 1));
        due("undo", 5, () -> x.undo());
        due("undo the evening", 4, () -> x.undo());
        due("the bid is back", 40, () -> x.bidOf(0, 0));
        due("undo the bid", 3, () -> x.undo());
        due("the bid before", 30, () -> x.bidOf(0, 0));
        x.undo();
        due("undo the days", 1, () -> x.undo());
        due("a pledge again", 1, () -> x.dueDayOf(0));
        type("days 1");
        due("undo the first", 0, () -> x.undo());
        due("the buffer stays", 1, () -> x.execute());
        due("an execute can be undone", 0, () -> x.undo());
    }

    private static void promises52And53() {
        begin(53);
        refused("restore", STATE, () -> x.restore());
        promise = 52;
        due("save", 0, () -> x.save());
        x.pledge(0, 50, 3);
        x.passDays(2);
        x.setRate(1, 5);
        due("save", 2, () -> x.save());
        String saved = view();
        due("save is no modification", 2, () -> x.undo());
        x.pledge(0, 10, 1);
        x.passDays(4);
        x.bid(0, 3, 100);
        promise = 53;
        type("da");
        due("restore", 2, () -> x.restore());
        due("the snapshot replaces the earlier one", saved, PromisesTest::view);
        refused("nothing can be undone", STATE, () -> x.undo());
        due("the buffer stays", 3, () -> x.type('y'));
        due("the next ticket is restored", 1, () -> x.pledge(0, 10, 1));
        x.redeem(0);
        due("restore again", 2, () -> x.restore());
        due("the snapshot is kept", saved, PromisesTest::view);
        x.passDays(1);
        due("undo after restore", 0, () -> x.undo());
    }

    public static void main(String[] args) {
        promise1();
        promise2();
        promise3();
        promise4();
        promise5();
        promise6();
        promise7();
        promises8To12();
        promises13To19();
        promises20To23();
        promises24And25();
        promises26And27();
        promise28();
        promise29();
        promise30();
        promises31To35();
        promises36And37();
        promise38();
        promises39To44();
        promises45And46();
        promise47();
        promise48();
        promise49();
        promise50();
        promise51();
        promises52And53();
        System.out.println(wrong == 0 ? "all promises hold" : wrong + " answers are not as due");
        if (wrong != 0) {
            System.exit(1);
        }
    }
}
