/** Promises 1 to 19. */
final class PledgeSentences extends Sentences {
    private static final String TICKETS =
            "the first one has the ticket 0, and every further one has the ticket of the pledge before it plus 1";
    private static final String FORFEITING = "At the beginning of a day, the pledges whose due day is before this day "
            + "are forfeited: they become lots, which keep their tickets, minutes and loans, and have no bids yet.";

    PledgeSentences(Suite suite) {
        super(suite);
    }

    @Override
    void all() {
        newObject();
        firstAndLastCall();
        pledgeRanges();
        pledgeRefused();
        pledgeFull();
        pledgePoor();
        pledgeSeveralExceptions();
        tickets();
        loan();
        redeem();
        debt();
        redeemRefused();
        extend();
        extendRefused();
        passDays();
        forfeiting();
        setPrice();
        setRate();
        setRateForPastDays();
        dayPriceAndRate();
        coins();
        pledgeCountAndPlaces();
        questionsAboutOnePledge();
        dueOrder();
    }

    private void newObject() {
        test(1, "Creates a pawnshop without pledges on day 0.", t -> {
            t.is(0, "day");
            t.is(0, "pledgeCount");
            t.is(0, "lotCount");
            t.refuses(INDEX, "pledgeAt", 0);
            t.refuses(INDEX, "lotAt", 0);
            t.refuses(ELEMENT, "pledgeByDueDay", 0);
            t.refuses(ELEMENT, "minutesOf", 0);
            t.is(0L, "pledgedMinutes");
            t.is(true, "isConsistent");
        });
        test(1, "Days are counted from 0.", t -> {
            t.is(0, "day");
            t.is(0, "passDays", 1);
            t.is(1, "day");
        });
        test(1, "Each weekday has a rate from 0 to 9, at first 1.", t -> {
            for (int weekday = 0; weekday < 7; weekday++) {
                t.is(1, "rateOf", weekday);
            }
        });
        test(1, "The price is from 1 to 9 coins for a minute, at first 2.", t -> t.is(2, "price"));
        test(1, "The shop has 2000 coins at first.", t -> {
            t.is(2000, "coins");
            t.is(2000, "coinsByAccounts");
        });
    }

    private void firstAndLastCall() {
        String sentence = "An object is used for at most 512 calls after it has been made";
        test(1, sentence, t -> {
            for (int call = 1; call < 512; call++) {
                t.is(0, "passDays", 90);
            }
            t.is(511 * 90, "day");
            t.fresh();
            for (int ticket = 0; ticket < 255; ticket++) {
                t.is(ticket, "pledge", 0, 240, 60);
                t.is(480, "redeem", ticket);
            }
            t.is(255, "pledge", 0, 240, 60);
            t.is(256L * 240, "pledgedMinutes");
        });
    }

    private void pledgeRanges() {
        test(2, "- `customer`: the customer, 0 to 5", t -> {
            t.refuses(ARGUMENT, "pledge", -1, 1, 1);
            t.refuses(ARGUMENT, "pledge", 6, 1, 1);
            t.is(0, "pledge", 0, 1, 1);
            t.is(0, "customerOf", 0);
            t.is(1, "pledge", 5, 1, 1);
            t.is(5, "customerOf", 1);
        });
        test(2, "- `minutes`: the number of minutes, 1 to 240", t -> {
            t.refuses(ARGUMENT, "pledge", 0, 0, 1);
            t.refuses(ARGUMENT, "pledge", 0, 241, 1);
            t.is(0, "pledge", 0, 1, 1);
            t.is(1, "minutesOf", 0);
            t.is(1, "pledge", 0, 240, 1);
            t.is(240, "minutesOf", 1);
        });
        test(2, "- `term`: the number of days from the present day to the due day, 1 to 60", t -> {
            t.call("passDays", 3);
            t.refuses(ARGUMENT, "pledge", 0, 1, 0);
            t.refuses(ARGUMENT, "pledge", 0, 1, 61);
            t.is(0, "pledge", 0, 1, 1);
            t.is(4, "dueDayOf", 0);
            t.is(1, "pledge", 0, 1, 60);
            t.is(63, "dueDayOf", 1);
        });
    }

    private void pledgeRefused() {
        test(2, "Throws `IllegalArgumentException` if one of the numbers is out of range", t -> {
            t.call("pledge", 3, 30, 3);
            for (int wrong : new int[] {MIN, -1, 241, MAX}) {
                t.refuses(ARGUMENT, "pledge", wrong, 1, 1);
                t.refuses(ARGUMENT, "pledge", 0, wrong, 1);
                t.refuses(ARGUMENT, "pledge", 0, 1, wrong);
            }
            t.refuses(ARGUMENT, "pledge", 6, 0, 61);
        });
    }

    private void pledgeFull() {
        test(2, "Throws `IllegalStateException` if there are 10 pledges and lots", t -> {
            t.pledges(9);
            t.is(9, "pledge", 0, 1, 1);
            t.refuses(STATE, "pledge", 0, 1, 1);
            t.is(1, "passDays", 2);
            t.refuses(STATE, "pledge", 0, 1, 1);
            t.is(9, "passDays", 60);
            t.is(10, "lotCount");
            t.refuses(STATE, "pledge", 0, 1, 1);
        });
        test(2, "At most 10 pledges and lots exist together.", t -> {
            t.lots(1, 1, 1);
            t.pledges(7);
            t.refuses(STATE, "pledge", 0, 1, 1);
            t.call("redeem", 9);
            t.is(10, "pledge", 0, 1, 60);
            t.refuses(STATE, "pledge", 0, 1, 1);
            t.call("bid", 1, 0, 2);
            t.call("sell", 1);
            t.is(11, "pledge", 0, 1, 60);
            t.refuses(STATE, "pledge", 0, 1, 1);
            t.call("bid", 0, 0, 2);
            t.call("bid", 2, 1, 2);
            t.call("sellEvening");
            t.is(12, "pledge", 0, 1, 60);
            t.is(13, "pledge", 0, 1, 60);
            t.refuses(STATE, "pledge", 0, 1, 1);
            t.call("undo");
            t.is(13, "pledge", 0, 1, 60);
            t.refuses(STATE, "pledge", 0, 1, 1);
        });
    }

    private void pledgePoor() {
        test(2, "Throws `UnsupportedOperationException` if the shop has fewer coins than the loan", t -> {
            t.call("setPrice", 9);
            t.refuses(UNSUPPORTED, "pledge", 0, 240, 60);
            t.refuses(UNSUPPORTED, "pledge", 0, 223, 60);
            t.is(0, "pledge", 0, 222, 60);
            t.is(2, "coins");
            t.call("setPrice", 3);
            t.refuses(UNSUPPORTED, "pledge", 0, 1, 60);
            t.call("setPrice", 2);
            t.is(1, "pledge", 0, 1, 60);
            t.is(0, "coins");
            t.call("setPrice", 1);
            t.refuses(UNSUPPORTED, "pledge", 0, 1, 60);
        });
    }

    private void pledgeSeveralExceptions() {
        test(2, SEVERAL, t -> {
            t.call("setPrice", 9);
            t.refuses(ARGUMENT, "pledge", 6, 240, 1);
            t.refuses(ARGUMENT, "pledge", 0, 241, 1);
            t.refuses(ARGUMENT, "pledge", 0, 240, 0);
            t.pledges(10);
            t.refuses(STATE, "pledge", 0, 240, 1);
            t.refuses(ARGUMENT, "pledge", -1, 240, 1);
            t.refuses(ARGUMENT, "pledge", 0, 0, 1);
            t.refuses(ARGUMENT, "pledge", 0, 1, 61);
        });
    }

    private void tickets() {
        test(2, TICKETS, t -> {
            t.refuses(ARGUMENT, "pledge", 6, 1, 1);
            t.is(0, "pledge", 0, 1, 1);
            t.is(1, "pledge", 0, 1, 1);
            t.call("redeem", 1);
            t.is(2, "pledge", 0, 1, 60);
            t.call("passDays", 2);
            t.call("bid", 0, 0, 999);
            t.call("sell", 0);
            t.call("redeem", 2);
            t.is(3, "pledge", 0, 1, 60);
        });
    }

    private void loan() {
        test(2, "The loan is the number of minutes multiplied by the price when it is pledged.", t -> {
            t.lots(1);
            t.call("bid", 0, 0, 999);
            t.call("sellEvening");
            t.call("setPrice", 1);
            t.is(1, "pledge", 0, 1, 60);
            t.is(1, "loanOf", 1);
            t.call("setPrice", 9);
            t.is(2, "pledge", 0, 240, 60);
            t.is(2160, "loanOf", 2);
            t.is(1, "loanOf", 1);
            t.call("setPrice", 1);
            t.is(2160, "loanOf", 2);
        });
        test(2, "The first day is the day on which it is pledged.", t -> {
            t.call("passDays", 4);
            t.rates(9, 9, 9, 9, 9, 9, 9);
            t.call("pledge", 0, 50, 60);
            t.is(0, "interestOf", 0);
            t.call("passDays", 1);
            t.is(9, "interestOf", 0);
        });
        test(2, "It pays the loan when minutes are pledged, and gets what is paid to it.", t -> {
            t.call("setPrice", 1);
            t.call("pledge", 0, 1, 60);
            t.is(1999, "coins");
            t.call("redeem", 0);
            t.is(2000, "coins");
        });
    }

    private void redeem() {
        test(3, "Redeems a pledge, which does not exist any more then.", t -> {
            t.pledges(10);
            for (int ticket : new int[] {0, 5, 9}) {
                t.is(2, "redeem", ticket);
                t.refuses(ELEMENT, "minutesOf", ticket);
                t.refuses(ELEMENT, "redeem", ticket);
            }
            int[] left = {1, 2, 3, 4, 6, 7, 8};
            for (int position = 0; position < left.length; position++) {
                t.is(left[position], "pledgeAt", position);
            }
            t.is(7, "pledgeCount");
        });
        test(3, "The customer pays the debt.", t -> {
            t.call("pledge", 0, 50, 1);
            t.call("pledge", 0, 50, 1);
            t.is(100, "redeem", 0);
            t.is(1900, "coins");
            t.call("passDays", 1);
            t.is(101, "redeem", 1);
            t.is(2001, "coins");
        });
    }

    private void debt() {
        test(3, "The debt of a pledge is its loan plus its interest.", t -> {
            t.call("setPrice", 1);
            t.call("pledge", 0, 1, 60);
            t.call("pledge", 0, 99, 60);
            t.call("passDays", 1);
            t.is(1, "redeem", 0);
            t.is(99, "redeem", 1);
            t.call("pledge", 0, 100, 60);
            t.call("passDays", 1);
            t.is(101, "redeem", 2);
        });
    }

    private void redeemRefused() {
        test(3, "Throws `NoSuchElementException` if there is no such pledge", t -> {
            t.refuses(ELEMENT, "redeem", 0);
            t.call("pledge", 0, 10, 1);
            t.call("pledge", 0, 10, 60);
            t.call("pledge", 0, 10, 60);
            t.call("passDays", 2);
            t.call("redeem", 2);
            for (int ticket : new int[] {MIN, -1, 0, 2, 3, MAX}) {
                t.refuses(ELEMENT, "redeem", ticket);
            }
            t.is(20, "redeem", 1);
            t.refuses(ELEMENT, "redeem", 1);
        });
    }

    private void extend() {
        test(4, "- `days`: the number of days from the present day to the new due day, 1 to 60", t -> {
            t.call("pledge", 0, 50, 9);
            t.call("passDays", 2);
            t.refuses(ARGUMENT, "extend", 0, 0);
            t.refuses(ARGUMENT, "extend", 0, 61);
            t.is(2, "extend", 0, 60);
            t.is(62, "dueDayOf", 0);
            t.is(0, "extend", 0, 1);
            t.is(3, "dueDayOf", 0);
        });
        test(4, "The customer pays the interest; the present day becomes the first day.", t -> {
            t.call("pledge", 0, 75, 9);
            t.call("passDays", 1);
            t.is(1, "extend", 0, 9);
            t.is(0, "interestOf", 0);
            t.is(0, "extend", 0, 9);
            t.is(1851, "coins");
            t.call("passDays", 1);
            t.is(1, "interestOf", 0);
            t.call("passDays", 1);
            t.is(3, "interestOf", 0);
        });
        test(4, FORFEITING, t -> {
            t.call("pledge", 0, 1, 1);
            t.call("passDays", 1);
            t.is(0, "extend", 0, 1);
            t.is(0, "passDays", 1);
            t.is(0, "extend", 0, 1);
            t.is(1, "passDays", 2);
            t.refuses(ELEMENT, "extend", 0, 1);
        });
    }

    private void extendRefused() {
        test(4, "Throws `NoSuchElementException` if there is no such pledge", t -> {
            t.refuses(ELEMENT, "extend", 0, 1);
            t.call("pledge", 0, 10, 1);
            t.call("pledge", 0, 10, 60);
            t.call("passDays", 2);
            t.call("redeem", 1);
            for (int ticket : new int[] {MIN, -1, 0, 1, 2, MAX}) {
                t.refuses(ELEMENT, "extend", ticket, 1);
            }
        });
        test(4, "Throws `IllegalArgumentException` if the number of days is out of range", t -> {
            t.call("pledge", 0, 10, 9);
            t.call("passDays", 5);
            for (int days : new int[] {MIN, -1, 0, 61, MAX}) {
                t.refuses(ARGUMENT, "extend", 0, days);
            }
        });
        test(4, SEVERAL, t -> {
            t.lots(10);
            t.refuses(ELEMENT, "extend", 0, 0);
            t.refuses(ELEMENT, "extend", 1, 61);
        });
    }

    private void passDays() {
        test(5, "- `days`: the number of days, 1 to 90", t -> {
            t.refuses(ARGUMENT, "passDays", 0);
            t.refuses(ARGUMENT, "passDays", 91);
            t.is(0, "passDays", 1);
            t.is(1, "day");
            t.is(0, "passDays", 90);
            t.is(91, "day");
        });
        test(5, "Throws `IllegalArgumentException` if the number of days is out of range", t -> {
            t.call("pledge", 0, 10, 1);
            for (int days : new int[] {MIN, -1, 0, 91, MAX}) {
                t.refuses(ARGUMENT, "passDays", days);
            }
        });
        test(5, "Returns the number of pledges that are forfeited in these days.", t -> {
            t.is(0, "passDays", 90);
            for (int term = 1; term <= 10; term++) {
                t.call("pledge", 0, 1, term);
            }
            t.is(0, "passDays", 1);
            t.is(1, "passDays", 1);
            t.is(2, "passDays", 2);
            t.is(7, "passDays", 90);
            t.is(0, "passDays", 90);
        });
        test(5, "Lets days pass, one after the other.", t -> {
            t.pledges(10);
            t.is(0, "passDays", 60);
            t.is(10, "passDays", 1);
            t.is(10, "forfeitedMinutes");
        });
    }

    private void forfeiting() {
        test(5, FORFEITING, t -> {
            t.call("pledge", 0, 30, 1);
            t.call("pledge", 0, 40, 60);
            t.is(0, "passDays", 1);
            t.is(2, "pledgeCount");
            t.is(1, "passDays", 1);
            t.is(0, "lotAt", 0);
            t.is(30, "minutesOf", 0);
            t.is(60, "loanOf", 0);
            for (int bidder = 0; bidder < 5; bidder++) {
                t.is(0, "bidOf", 0, bidder);
                t.call("bid", 0, bidder, 60);
            }
            t.is(0, "passDays", 58);
            t.is(1, "pledgeAt", 0);
            t.call("sell", 0);
            t.call("pledge", 0, 10, 1);
            t.is(2, "passDays", 2);
            for (int bidder = 0; bidder < 5; bidder++) {
                t.is(0, "bidOf", 1, bidder);
                t.is(0, "bidOf", 2, bidder);
            }
        });
    }

    private void setPrice() {
        test(6, "- `coins`: the new price, 1 to 9 coins for a minute", t -> {
            t.refuses(ARGUMENT, "setPrice", 0);
            t.refuses(ARGUMENT, "setPrice", 10);
            t.is(2, "setPrice", 1);
            t.is(1, "price");
            t.is(1, "setPrice", 9);
            t.is(9, "price");
        });
        test(6, "Throws `IllegalArgumentException` if the price is out of range", t -> {
            t.call("setPrice", 5);
            for (int coins : new int[] {MIN, -1, 0, 10, MAX}) {
                t.refuses(ARGUMENT, "setPrice", coins);
            }
        });
        test(6, "Returns the previous price.", t -> {
            t.is(2, "setPrice", 2);
            t.is(2, "setPrice", 3);
            t.refuses(ARGUMENT, "setPrice", 0);
            t.is(3, "setPrice", 4);
            t.call("undo");
            t.is(3, "setPrice", 4);
        });
    }

    private void setRate() {
        test(7, "- `weekday`: the weekday, 0 to 6", t -> {
            t.refuses(ARGUMENT, "setRate", -1, 2);
            t.refuses(ARGUMENT, "setRate", 7, 2);
            t.is(1, "setRate", 0, 2);
            t.is(2, "rateOf", 0);
            t.is(1, "setRate", 6, 3);
            t.is(3, "rateOf", 6);
            t.is(1, "rateOf", 1);
            t.is(1, "rateOf", 5);
        });
        test(7, "- `rate`: the new rate, 0 to 9", t -> {
            t.refuses(ARGUMENT, "setRate", 3, -1);
            t.refuses(ARGUMENT, "setRate", 3, 10);
            t.is(1, "setRate", 3, 0);
            t.is(0, "rateOf", 3);
            t.is(0, "setRate", 3, 9);
            t.is(9, "rateOf", 3);
        });
        test(7, "Returns the previous rate.", t -> {
            t.is(1, "setRate", 4, 1);
            t.is(1, "setRate", 4, 0);
            t.refuses(ARGUMENT, "setRate", 4, 10);
            t.is(0, "setRate", 4, 9);
            t.call("undo");
            t.is(0, "setRate", 4, 9);
            t.is(1, "setRate", 3, 9);
        });
        test(7, "Throws `IllegalArgumentException` if the weekday or the rate is out of range", t -> {
            t.call("pledge", 0, 50, 9);
            t.call("passDays", 3);
            for (int wrong : new int[] {MIN, -1, 10, MAX}) {
                t.refuses(ARGUMENT, "setRate", wrong, 5);
                t.refuses(ARGUMENT, "setRate", 2, wrong);
                t.refuses(ARGUMENT, "setRate", wrong, wrong);
            }
            t.refuses(ARGUMENT, "setRate", 7, 0);
        });
    }

    private void setRateForPastDays() {
        test(7, "Sets the rate of a weekday, for all days, also those that have passed.", t -> {
            t.call("passDays", 6);
            t.call("pledge", 0, 50, 60);
            t.call("passDays", 8);
            t.is(8, "interestOf", 0);
            t.call("setRate", 6, 9);
            t.is(16, "interestOf", 0);
            t.call("setRate", 0, 0);
            t.is(14, "interestOf", 0);
            t.is(14, "interestByWeeks", 0);
            t.is(114, "redeem", 0);
        });
    }

    private void dayPriceAndRate() {
        test(8, "Returns the number of days that have passed.", t -> {
            t.is(0, "day");
            t.call("passDays", 90);
            t.refuses(ARGUMENT, "passDays", 91);
            t.call("passDays", 1);
            t.is(91, "day");
            t.call("undo");
            t.is(90, "day");
        });
        test(9, "The price is from 1 to 9 coins for a minute, at first 2.", t -> {
            t.is(2, "price");
            t.call("setPrice", 9);
            t.is(9, "price");
            t.call("setPrice", 1);
            t.is(1, "price");
        });
        test(10, "- `weekday`: the weekday, 0 to 6", t -> {
            t.rates(2, 3, 4, 5, 6, 7, 8);
            t.refuses(ARGUMENT, "rateOf", -1);
            t.is(2, "rateOf", 0);
            t.is(8, "rateOf", 6);
            t.refuses(ARGUMENT, "rateOf", 7);
        });
        test(10, "Throws `IllegalArgumentException` if there is no such weekday", t -> {
            for (int weekday : new int[] {MIN, -7, -1, 7, 8, MAX}) {
                t.refuses(ARGUMENT, "rateOf", weekday);
            }
        });
    }

    private void coins() {
        test(11, "It pays the loan when minutes are pledged, and gets what is paid to it.", t -> throughAllAccounts(t, "coins"));
        test(12, "the coins at first minus the loans, plus what was paid for redeeming, extending and in auctions.",
                t -> throughAllAccounts(t, "coinsByAccounts"));
    }

    private void throughAllAccounts(Bench t, String name) {
        t.call("pledge", 0, 240, 60);
        t.call("pledge", 0, 240, 60);
        t.call("pledge", 0, 240, 60);
        t.call("pledge", 0, 240, 60);
        t.is(80, name);
        t.call("pledge", 0, 40, 1);
        t.is(0, name);
        t.refuses(UNSUPPORTED, "pledge", 0, 1, 1);
        t.call("passDays", 2);
        t.is(0, name);
        t.is(9, "extend", 0, 1);
        t.is(9, name);
        t.is(480, "redeem", 0);
        t.is(489, name);
        t.call("bid", 4, 0, 999);
        t.is(489, name);
        t.is(80, "sell", 4);
        t.is(569, name);
        t.call("undo");
        t.is(489, name);
        t.is(999, "sellEvening");
        t.is(1488, name);
        t.call("save");
        t.is(489, "redeem", 1);
        t.is(1977, name);
        t.call("restore");
        t.is(1488, name);
    }

    private void pledgeCountAndPlaces() {
        test(13, "Returns the number of pledges.", t -> {
            t.is(0, "pledgeCount");
            t.lots(1);
            t.is(0, "pledgeCount");
            t.pledges(9);
            t.is(9, "pledgeCount");
            t.call("passDays", 61);
            t.is(0, "pledgeCount");
            t.fresh();
            t.pledges(10);
            t.is(10, "pledgeCount");
        });
        test(14, "Returns a pledge by its position in the order of tickets.", t -> {
            t.call("pledge", 0, 1, 60);
            t.call("pledge", 0, 1, 1);
            t.call("pledge", 0, 1, 30);
            t.call("passDays", 1);
            t.call("extend", 0, 60);
            for (int position = 0; position < 3; position++) {
                t.is(position, "pledgeAt", position);
            }
            t.call("redeem", 0);
            t.is(1, "pledgeAt", 0);
            t.is(2, "pledgeAt", 1);
            t.is(3, "pledge", 0, 1, 1);
            t.is(3, "pledgeAt", 2);
        });
        test(14, "- `position`: the position, from 0", t -> {
            t.lots(1);
            t.pledges(9);
            t.refuses(INDEX, "pledgeAt", -1);
            t.is(1, "pledgeAt", 0);
            t.is(9, "pledgeAt", 8);
            t.refuses(INDEX, "pledgeAt", 9);
        });
        test(14, "Throws `IndexOutOfBoundsException` if there is no such position", t -> {
            t.refuses(INDEX, "pledgeAt", 0);
            t.lots(1);
            t.refuses(INDEX, "pledgeAt", 0);
            t.pledges(2);
            for (int position : new int[] {MIN, -1, 2, 3, 10, MAX}) {
                t.refuses(INDEX, "pledgeAt", position);
            }
            t.fresh();
            t.pledges(10);
            t.is(9, "pledgeAt", 9);
            t.refuses(INDEX, "pledgeAt", 10);
        });
    }

    private void questionsAboutOnePledge() {
        String sentence = "A pledge has a customer from 0 to 5, a number of minutes from 1 to 240, a loan in coins, "
                + "a first day, and a due day.";
        test(15, sentence, t -> {
            for (int customer = 0; customer <= 5; customer++) {
                t.is(customer, "pledge", customer, 1, 60);
                t.is(customer, "customerOf", customer);
            }
        });
        test(16, sentence, t -> {
            t.call("pledge", 0, 1, 1);
            t.call("pledge", 0, 240, 60);
            t.is(1, "minutesOf", 0);
            t.is(240, "minutesOf", 1);
            t.call("passDays", 61);
            t.is(1, "minutesOf", 0);
            t.is(240, "minutesOf", 1);
        });
        test(18, sentence, t -> {
            t.call("passDays", 90);
            t.call("pledge", 0, 1, 1);
            t.call("pledge", 0, 1, 60);
            t.is(91, "dueDayOf", 0);
            t.is(150, "dueDayOf", 1);
        });
        test(15, "Throws `NoSuchElementException` if there is no such pledge", t -> refusedOfLots(t, "customerOf", 3));
        test(18, "Throws `NoSuchElementException` if there is no such pledge", t -> refusedOfLots(t, "dueDayOf", 9));
        test(16, "Throws `NoSuchElementException` if there is no such pledge or lot", t -> answeredOfLots(t, "minutesOf", 20, 10));
        test(17, "Throws `NoSuchElementException` if there is no such pledge or lot", t -> answeredOfLots(t, "loanOf", 40, 20));
    }

    /** The tickets 0 to 4: a lot, a pledge, a lot that is sold, a pledge that is redeemed, and none. */
    private void prepareOfAllKinds(Bench t) {
        t.call("pledge", 0, 10, 1);
        t.call("pledge", 3, 20, 9);
        t.call("pledge", 0, 30, 1);
        t.call("pledge", 0, 40, 9);
        t.call("passDays", 2);
        t.call("bid", 2, 0, 999);
        t.call("sell", 2);
        t.call("redeem", 3);
    }

    private void refusedOfLots(Bench t, String name, int ofPledge) {
        t.refuses(ELEMENT, name, 0);
        prepareOfAllKinds(t);
        t.is(ofPledge, name, 1);
        for (int ticket : new int[] {MIN, -1, 0, 2, 3, 4, MAX}) {
            t.refuses(ELEMENT, name, ticket);
        }
    }

    private void answeredOfLots(Bench t, String name, int ofPledge, int ofLot) {
        t.refuses(ELEMENT, name, 0);
        prepareOfAllKinds(t);
        t.is(ofPledge, name, 1);
        t.is(ofLot, name, 0);
        for (int ticket : new int[] {MIN, -1, 2, 3, 4, MAX}) {
            t.refuses(ELEMENT, name, ticket);
        }
    }

    private void dueOrder() {
        test(19, "- `place`: the place in this order, from 0", t -> {
            t.call("pledge", 0, 1, 60);
            t.call("pledge", 0, 1, 1);
            t.call("pledge", 0, 1, 59);
            t.refuses(ELEMENT, "pledgeByDueDay", -1);
            t.is(1, "pledgeByDueDay", 0);
            t.is(2, "pledgeByDueDay", 1);
            t.is(0, "pledgeByDueDay", 2);
            t.refuses(ELEMENT, "pledgeByDueDay", 3);
        });
        test(19, "Throws `NoSuchElementException` if there is no such place", t -> {
            t.refuses(ELEMENT, "pledgeByDueDay", 0);
            t.lots(1);
            t.refuses(ELEMENT, "pledgeByDueDay", 0);
            t.pledges(9);
            t.is(9, "pledgeByDueDay", 8);
            for (int place : new int[] {MIN, -1, 9, 10, MAX}) {
                t.refuses(ELEMENT, "pledgeByDueDay", place);
            }
            t.fresh();
            t.pledges(10);
            t.is(9, "pledgeByDueDay", 9);
            t.refuses(ELEMENT, "pledgeByDueDay", 10);
        });
        test(19, "Returns a pledge in the order of due days, and of tickets on the same day.", t -> {
            t.call("pledge", 0, 1, 5);
            t.call("pledge", 0, 1, 4);
            t.call("passDays", 1);
            t.call("pledge", 0, 1, 4);
            t.call("pledge", 0, 1, 3);
            for (int place = 0; place < 4; place++) {
                t.is(new int[] {1, 3, 0, 2}[place], "pledgeByDueDay", place);
            }
            t.call("extend", 1, 4);
            for (int place = 0; place < 4; place++) {
                t.is(new int[] {3, 0, 1, 2}[place], "pledgeByDueDay", place);
            }
        });
    }
}
