/** Promises 20 to 27. */
final class InterestSentences extends Sentences {
    private static final String INTEREST = "The interest of a pledge is its loan multiplied by the sum of the rates of all days "
            + "after its first day up to the present day, which is included, divided by 100.";
    private static final String WEEKDAY = "The weekday of a day is the day modulo 7.";
    private static final String ROUNDING = "All integer divisions are rounded down.";

    InterestSentences(Suite suite) {
        super(suite);
    }

    @Override
    void all() {
        interest(20, "interestOf");
        interest(21, "interestByWeeks");
        wholeWeeks();
        debtAfter();
        debtAfterRefused();
        cheapestWeekday();
        mostMinutes(24, "mostMinutes");
        mostMinutes(25, "mostMinutesByTable");
        mostMinutesOfMany(24, "mostMinutes");
        mostMinutesOfMany(25, "mostMinutesByTable");
        debtOf();
        daysToForfeit();
    }

    private void interest(int promise, String name) {
        test(promise, "Throws `NoSuchElementException` if there is no such pledge", t -> {
            t.refuses(ELEMENT, name, 0);
            t.lots(10, 20);
            t.call("pledge", 0, 10, 9);
            t.call("redeem", 2);
            for (int ticket : new int[] {MIN, -1, 0, 1, 2, 3, MAX}) {
                t.refuses(ELEMENT, name, ticket);
            }
        });
        test(promise, INTEREST, t -> {
            t.rates(1, 2, 3, 4, 5, 6, 7);
            t.call("passDays", 2);
            t.call("pledge", 0, 50, 60);
            t.is(0, name, 0);
            t.call("passDays", 1);
            t.is(4, name, 0);
            t.call("passDays", 1);
            t.is(9, name, 0);
            t.call("setRate", 2, 9);
            t.is(9, name, 0);
            t.call("setRate", 5, 9);
            t.is(9, name, 0);
        });
        test(promise, WEEKDAY, t -> {
            t.call("setRate", 0, 5);
            t.call("passDays", 6);
            t.call("pledge", 0, 50, 60);
            t.is(0, name, 0);
            t.call("passDays", 1);
            t.is(5, name, 0);
            t.call("passDays", 6);
            t.is(11, name, 0);
            t.call("passDays", 1);
            t.is(16, name, 0);
        });
        test(promise, ROUNDING, t -> {
            t.call("pledge", 0, 1, 60);
            t.call("passDays", 49);
            t.is(0, name, 0);
            t.call("passDays", 1);
            t.is(1, name, 0);
            t.rates(2, 2, 2, 2, 2, 2, 2);
            t.is(2, name, 0);
            t.call("setRate", 1, 1);
            t.is(1, name, 0);
        });
        test(promise, "Each weekday has a rate from 0 to 9, at first 1.", t -> {
            t.call("setPrice", 8);
            t.call("pledge", 0, 240, 60);
            t.call("passDays", 60);
            t.is(1152, name, 0);
            t.rates(9, 9, 9, 9, 9, 9, 9);
            t.is(10368, name, 0);
            t.rates(0, 0, 0, 0, 0, 0, 0);
            t.is(0, name, 0);
        });
    }

    private void wholeWeeks() {
        test(21, "with the rates added by whole weeks and the days that are left", t -> {
            int[] rates = {3, 1, 4, 0, 5, 9, 2};
            t.rates(rates);
            for (int weekday = 0; weekday < 7; weekday++) {
                t.call("pledge", 0, 50, 60);
                int passed = 0;
                for (int days : new int[] {0, 1, 6, 7, 8, 13, 14, 15, 59, 60}) {
                    if (days > passed) {
                        t.call("passDays", days - passed);
                    }
                    passed = days;
                    t.is(sumOfRates(rates, weekday * 61, days), "interestByWeeks", weekday);
                    t.is(sumOfRates(rates, weekday * 61, days), "interestOf", weekday);
                }
                t.call("redeem", weekday);
                t.call("passDays", 1);
            }
        });
    }

    private static int sumOfRates(int[] rates, int firstDay, int days) {
        int sum = 0;
        for (int day = firstDay + 1; day <= firstDay + days; day++) {
            sum += rates[day % 7];
        }
        return sum;
    }

    private void debtAfter() {
        test(22, "- `days`: the number of days, 0 to 90", t -> {
            t.call("passDays", 5);
            t.call("pledge", 0, 50, 60);
            t.refuses(ARGUMENT, "debtAfter", 0, -1);
            t.is(100, "debtAfter", 0, 0);
            t.is(101, "debtAfter", 0, 1);
            t.is(190, "debtAfter", 0, 90);
            t.refuses(ARGUMENT, "debtAfter", 0, 91);
            t.call("passDays", 60);
            t.is(160, "debtAfter", 0, 0);
            t.is(250, "debtAfter", 0, 90);
        });
        test(22, "if it was not forfeited, redeemed or extended before", t -> {
            t.call("pledge", 0, 50, 1);
            t.is(101, "debtAfter", 0, 1);
            t.is(102, "debtAfter", 0, 2);
            t.is(103, "debtAfter", 0, 3);
            t.call("passDays", 1);
            t.is(102, "debtAfter", 0, 1);
            t.call("extend", 0, 1);
            t.is(101, "debtAfter", 0, 1);
        });
        test(22, WEEKDAY, t -> {
            t.call("setRate", 0, 9);
            t.call("passDays", 5);
            t.call("pledge", 0, 50, 60);
            t.is(101, "debtAfter", 0, 1);
            t.is(110, "debtAfter", 0, 2);
            t.is(116, "debtAfter", 0, 8);
            t.is(125, "debtAfter", 0, 9);
        });
        test(22, ROUNDING, t -> {
            t.call("pledge", 0, 1, 60);
            t.is(2, "debtAfter", 0, 49);
            t.is(3, "debtAfter", 0, 50);
        });
    }

    private void debtAfterRefused() {
        test(22, "Throws `NoSuchElementException` if there is no such pledge", t -> {
            t.refuses(ELEMENT, "debtAfter", 0, 0);
            t.lots(10);
            t.call("pledge", 0, 10, 9);
            t.call("redeem", 1);
            for (int ticket : new int[] {MIN, -1, 0, 1, 2, MAX}) {
                t.refuses(ELEMENT, "debtAfter", ticket, 0);
            }
        });
        test(22, "Throws `IllegalArgumentException` if the number of days is out of range", t -> {
            t.call("pledge", 0, 10, 9);
            for (int days : new int[] {MIN, -1, 91, MAX}) {
                t.refuses(ARGUMENT, "debtAfter", 0, days);
            }
        });
        test(22, SEVERAL, t -> {
            t.lots(10);
            t.refuses(ELEMENT, "debtAfter", 0, -1);
            t.refuses(ELEMENT, "debtAfter", 1, 91);
        });
    }

    private void cheapestWeekday() {
        test(23, "Returns the weekday, and of several the one that comes first from the present day on.", t -> {
            for (int day = 0; day <= 7; day++) {
                t.is(day % 7, "cheapestWeekday");
                t.call("passDays", 1);
            }
            t.fresh();
            t.call("passDays", 6);
            t.is(6, "cheapestWeekday");
            t.call("setRate", 6, 2);
            t.is(0, "cheapestWeekday");
            t.call("setRate", 0, 2);
            t.is(1, "cheapestWeekday");
            t.call("setRate", 5, 0);
            t.is(5, "cheapestWeekday");
            t.call("setRate", 3, 0);
            t.is(3, "cheapestWeekday");
            t.call("setRate", 6, 0);
            t.is(6, "cheapestWeekday");
            t.call("passDays", 1);
            t.is(3, "cheapestWeekday");
        });
        test(23, "Returns the weekday with the least rate.", t -> {
            t.rates(9, 9, 9, 9, 9, 9, 9);
            t.is(0, "cheapestWeekday");
            t.call("setRate", 6, 8);
            t.is(6, "cheapestWeekday");
            t.call("setRate", 1, 0);
            t.is(1, "cheapestWeekday");
        });
    }

    private void mostMinutes(int promise, String name) {
        test(promise, "- `customer`: the customer, 0 to 5", t -> {
            t.call("pledge", 0, 10, 60);
            t.call("pledge", 5, 30, 60);
            t.refuses(ARGUMENT, name, -1, 0);
            t.is(10, name, 0, 9999);
            t.is(0, name, 4, 9999);
            t.is(30, name, 5, 9999);
            t.refuses(ARGUMENT, name, 6, 0);
        });
        test(promise, "- `coins`: the number of coins, 0 to 9999", t -> {
            t.rates(9, 9, 9, 9, 9, 9, 9);
            t.call("setPrice", 9);
            t.call("pledge", 0, 202, 60);
            t.call("setPrice", 1);
            t.call("passDays", 50);
            t.is(9999, "debtOf", 0);
            t.refuses(ARGUMENT, name, 0, -1);
            t.is(0, name, 0, 0);
            t.is(0, name, 0, 9998);
            t.is(202, name, 0, 9999);
            t.refuses(ARGUMENT, name, 0, 10000);
            t.call("passDays", 1);
            t.is(0, name, 0, 9999);
        });
        test(promise, "Throws `IllegalArgumentException` if the customer or the number of coins is out of range", t -> {
            t.call("pledge", 0, 10, 60);
            for (int wrong : new int[] {MIN, -1, 10000, MAX}) {
                t.refuses(ARGUMENT, name, wrong, 5);
                t.refuses(ARGUMENT, name, 0, wrong);
                t.refuses(ARGUMENT, name, wrong, wrong);
            }
            t.refuses(ARGUMENT, name, 6, 9999);
        });
    }

    private void mostMinutesOfMany(int promise, String name) {
        String sentence = promise == 24 ? "by looking at all sets of these pledges"
                : "from a table of the least coins for all numbers of minutes";
        test(promise, sentence, t -> {
            t.is(0, name, 0, 9999);
            t.lots(200);
            t.is(0, name, 0, 9999);
            t.call("bid", 0, 0, 999);
            t.call("sellEvening");
            t.call("setPrice", 1);
            for (int i = 0; i < 9; i++) {
                t.call("pledge", 0, 240, 60);
            }
            t.call("pledge", 1, 1, 60);
            t.is(0, name, 0, 239);
            t.is(240, name, 0, 240);
            t.is(2160, name, 0, 9999);
            t.is(1, name, 1, 9999);
            t.is(0, name, 1, 0);
            t.is(1, name, 1, 1);
            t.call("redeem", 10);
            t.call("pledge", 0, 240, 60);
            t.is(2160, name, 0, 2399);
            t.is(2400, name, 0, 2400);
            t.is(2400, name, 0, 9999);
        });
        test(promise, sentence, t -> {
            t.call("pledge", 0, 50, 60);
            t.call("setPrice", 1);
            t.call("pledge", 0, 50, 60);
            t.call("pledge", 0, 70, 60);
            t.is(0, name, 0, 49);
            t.is(50, name, 0, 50);
            t.is(50, name, 0, 69);
            t.is(70, name, 0, 70);
            t.is(70, name, 0, 119);
            t.is(120, name, 0, 120);
            t.is(120, name, 0, 219);
            t.is(170, name, 0, 220);
        });
    }

    private void debtOf() {
        test(26, "- `customer`: the customer, 0 to 5", t -> {
            t.call("pledge", 0, 10, 60);
            t.call("pledge", 5, 30, 60);
            t.refuses(ARGUMENT, "debtOf", -1);
            t.is(20, "debtOf", 0);
            t.is(60, "debtOf", 5);
            t.refuses(ARGUMENT, "debtOf", 6);
        });
        test(26, "Throws `IllegalArgumentException` if there is no such customer", t -> {
            t.call("pledge", 0, 10, 60);
            for (int customer : new int[] {MIN, -1, 6, MAX}) {
                t.refuses(ARGUMENT, "debtOf", customer);
            }
        });
        test(26, "Returns the debt of all pledges of a customer together.", t -> {
            t.is(0, "debtOf", 2);
            for (int i = 0; i < 10; i++) {
                t.call("pledge", 2, 49, i == 0 ? 2 : 60);
            }
            t.is(980, "debtOf", 2);
            t.is(0, "debtOf", 3);
            t.call("passDays", 2);
            t.is(990, "debtOf", 2);
            t.call("passDays", 1);
            t.is(900, "debtOf", 2);
            t.call("passDays", 58);
            t.is(0, "debtOf", 2);
        });
    }

    private void daysToForfeit() {
        test(27, "Throws `NoSuchElementException` if there are no pledges", t -> {
            t.refuses(ELEMENT, "daysToForfeit");
            t.call("pledge", 0, 10, 60);
            t.call("redeem", 0);
            t.refuses(ELEMENT, "daysToForfeit");
            t.lots(10);
            t.refuses(ELEMENT, "daysToForfeit");
        });
        test(27, "Returns after how many days the next pledge will be forfeited, if only days pass.", t -> {
            t.call("pledge", 0, 10, 60);
            t.is(61, "daysToForfeit");
            t.is(0, "passDays", 60);
            t.is(1, "daysToForfeit");
            t.call("pledge", 0, 10, 1);
            t.is(1, "daysToForfeit");
            t.is(1, "passDays", 1);
            t.is(1, "daysToForfeit");
            t.call("extend", 1, 60);
            t.call("pledge", 0, 10, 59);
            t.is(60, "daysToForfeit");
        });
    }
}
