/** Promises 39 to 44. */
final class AccountSentences extends Sentences {
    AccountSentences(Suite suite) {
        super(suite);
    }

    @Override
    void all() {
        test(39, "Returns the minutes that have been redeemed so far.", this::redeemed);
        test(40, "Returns the minutes that have been forfeited so far.", this::forfeited);
        test(41, "Returns the minutes that have been sold so far.", this::sold);
        test(42, "Returns the minutes that have been pledged so far.", this::pledged);
        meanLoan();
        isConsistent();
    }

    private void redeemed(Bench t) {
        t.is(0, "redeemedMinutes");
        t.call("pledge", 0, 240, 60);
        t.call("pledge", 0, 1, 1);
        t.is(0, "redeemedMinutes");
        t.call("passDays", 2);
        t.refuses(ELEMENT, "redeem", 1);
        t.is(0, "redeemedMinutes");
        t.call("redeem", 0);
        t.is(240, "redeemedMinutes");
        t.refuses(ELEMENT, "redeem", 0);
        t.is(240, "redeemedMinutes");
        t.call("undo");
        t.is(0, "redeemedMinutes");
    }

    private void forfeited(Bench t) {
        t.is(0, "forfeitedMinutes");
        t.call("pledge", 0, 10, 1);
        t.call("pledge", 0, 20, 2);
        t.call("passDays", 1);
        t.is(0, "forfeitedMinutes");
        t.call("passDays", 1);
        t.is(10, "forfeitedMinutes");
        t.call("passDays", 90);
        t.is(30, "forfeitedMinutes");
        t.call("bid", 0, 0, 20);
        t.call("sell", 0);
        t.is(30, "forfeitedMinutes");
        t.call("undo");
        t.call("undo");
        t.call("undo");
        t.is(10, "forfeitedMinutes");
    }

    private void sold(Bench t) {
        t.is(0, "soldMinutes");
        t.lots(10, 20, 30);
        t.is(0, "soldMinutes");
        t.refuses(STATE, "sell", 0);
        t.refuses(STATE, "sellEvening");
        t.call("bid", 0, 0, 999);
        t.call("bid", 1, 1, 999);
        t.call("bid", 2, 2, 999);
        t.is(0, "soldMinutes");
        t.call("sell", 0);
        t.is(10, "soldMinutes");
        t.call("sellEvening");
        t.is(60, "soldMinutes");
        t.call("undo");
        t.is(10, "soldMinutes");
    }

    private void pledged(Bench t) {
        t.is(0L, "pledgedMinutes");
        t.refuses(ARGUMENT, "pledge", 0, 241, 1);
        t.call("pledge", 0, 240, 1);
        t.is(240L, "pledgedMinutes");
        t.call("redeem", 0);
        t.is(240L, "pledgedMinutes");
        t.call("pledge", 0, 1, 1);
        t.is(241L, "pledgedMinutes");
        t.call("extend", 1, 1);
        t.call("passDays", 2);
        t.is(241L, "pledgedMinutes");
        t.call("undo");
        t.call("undo");
        t.call("undo");
        t.is(240L, "pledgedMinutes");
    }

    private void meanLoan() {
        test(43, "Throws `ArithmeticException` if there are no pledges", t -> {
            t.refuses(ARITHMETIC, "meanLoan");
            t.call("pledge", 0, 10, 60);
            t.call("redeem", 0);
            t.refuses(ARITHMETIC, "meanLoan");
            t.lots(10);
            t.refuses(ARITHMETIC, "meanLoan");
        });
        test(43, "Returns the sum of the loans divided by the number of pledges, both converted to double.", t -> {
            t.call("setPrice", 1);
            t.call("pledge", 0, 1, 60);
            t.is(1.0, "meanLoan");
            t.lots(240);
            t.is(1.0, "meanLoan");
            t.call("pledge", 0, 2, 60);
            t.is(1.5, "meanLoan");
            t.call("pledge", 0, 2, 60);
            t.is(5.0 / 3.0, "meanLoan");
            for (int i = 0; i < 6; i++) {
                t.call("pledge", 0, 1, 60);
            }
            t.is(11.0 / 9.0, "meanLoan");
        });
    }

    private void isConsistent() {
        test(44, "Returns whether all of this holds.", t -> {
            consistentAfter(t, "day");
            consistentAfter(t, "pledge", 0, 240, 60);
            consistentAfter(t, "pledge", 0, 7, 1);
            consistentAfter(t, "pledge", 0, 8, 1);
            consistentAfter(t, "pledge", 0, 9, 60);
            consistentAfter(t, "passDays", 13);
            consistentAfter(t, "setRate", 3, 9);
            consistentAfter(t, "extend", 0, 60);
            consistentAfter(t, "setRate", 6, 0);
            consistentAfter(t, "passDays", 20);
            consistentAfter(t, "redeem", 0);
            consistentAfter(t, "bid", 1, 0, 30);
            consistentAfter(t, "bid", 2, 1, 30);
            consistentAfter(t, "sell", 1);
            consistentAfter(t, "save");
            consistentAfter(t, "sellEvening");
            consistentAfter(t, "undo");
            consistentAfter(t, "undo");
            consistentAfter(t, "undo");
            consistentAfter(t, "restore");
            t.failing("redeem 3;redeem 3", 1);
            t.is(true, "isConsistent");
            t.program(1, "redeem 3");
            t.is(true, "isConsistent");
            t.refuses(ELEMENT, "redeem", 3);
            t.is(true, "isConsistent");
        });
    }

    private static void consistentAfter(Bench t, String name, Object... arguments) {
        t.call(name, arguments);
        t.is(true, "isConsistent");
    }
}
