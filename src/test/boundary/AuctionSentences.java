/** Promises 28 to 38. */
final class AuctionSentences extends Sentences {
    private static final String ALONE = "When a lot is sold alone, the bidder with the highest bid gets it, and the one with "
            + "the lowest number of several; the bid must not be less than the loan of the lot.";
    private static final String PAYING =
            "The buyer pays the highest bid of the other bidders, but not less than the loan.";
    private static final String EVENING = "several lots are sold at the same time, each of them to a bidder whose bid for it "
            + "is not less than its loan, and no two of them to the same bidder; the buyers pay their bids.";
    private static final String MOST = "The best evening is the one in which the buyers pay most together.";
    private static final String EQUAL = "Of several such evenings, the one is best in which the lot with the lowest ticket that is "
            + "not treated alike in them is sold, or is sold to the bidder with the lower number.";

    AuctionSentences(Suite suite) {
        super(suite);
    }

    @Override
    void all() {
        bid();
        bidders();
        bidRefused();
        sellRefused();
        sellAlone();
        sellPrice();
        oneCoin();
        sold();
        sellEveningRefused();
        sellEvening();
        lots();
        bidOf();
        buyerAndPrice();
        bestEvening(36, "bestEvening");
        bestEvening(37, "bestEveningByTrying");
        allBidders(36, "bestEvening", "lot by lot from the best sums for all sets of bidders");
        allBidders(37, "bestEveningByTrying", "giving up those that cannot become better than the best one");
        eveningBuyerRefused();
        equalEvenings();
    }

    private void bid() {
        test(28, "- `bidder`: the bidder, 0 to 4", t -> {
            t.lots(10);
            t.refuses(ARGUMENT, "bid", 0, -1, 5);
            t.refuses(ARGUMENT, "bid", 0, 5, 5);
            t.is(0, "bid", 0, 0, 6);
            t.is(6, "bidOf", 0, 0);
            t.is(0, "bid", 0, 4, 7);
            t.is(7, "bidOf", 0, 4);
        });
        test(28, "- `coins`: the bid, 1 to 999 coins", t -> {
            t.lots(10);
            t.refuses(ARGUMENT, "bid", 0, 2, 0);
            t.refuses(ARGUMENT, "bid", 0, 2, 1000);
            t.is(0, "bid", 0, 2, 1);
            t.is(1, "bidOf", 0, 2);
            t.is(1, "bid", 0, 2, 999);
            t.is(999, "bidOf", 0, 2);
        });
        test(28, "Returns the previous bid, 0 if there was none.", t -> {
            t.lots(10, 10);
            t.is(0, "bid", 1, 3, 20);
            t.is(0, "bid", 0, 3, 21);
            t.is(0, "bid", 1, 2, 22);
            t.is(20, "bid", 1, 3, 20);
            t.is(20, "bid", 1, 3, 30);
            t.call("undo");
            t.is(20, "bid", 1, 3, 30);
        });
        test(28, "Makes a bid for a lot, in place of the bid of this bidder before.", t -> {
            t.lots(10);
            t.call("bid", 0, 1, 999);
            t.is(999, "bid", 0, 1, 1);
            t.is(1, "bidOf", 0, 1);
            t.refuses(STATE, "sell", 0);
        });
    }

    private void bidders() {
        test(28, "There are the bidders 0 to 4.", t -> {
            t.lots(10);
            for (int bidder = 0; bidder < 5; bidder++) {
                t.is(0, "bid", 0, bidder, 10 + bidder);
            }
            t.refuses(ARGUMENT, "bid", 0, -1, 10);
            t.refuses(ARGUMENT, "bid", 0, 5, 10);
            for (int bidder = 0; bidder < 5; bidder++) {
                t.is(10 + bidder, "bidOf", 0, bidder);
            }
        });
        test(28, "Each bidder can have one bid from 1 to 999 coins for each lot.", t -> {
            t.lots(1, 1, 1, 1, 1, 1, 1, 1, 1, 1);
            for (int lot = 0; lot < 10; lot++) {
                t.is(0, "bid", lot, 4, 990 + lot);
                t.is(0, "bid", lot, 0, 1);
            }
            for (int lot = 0; lot < 10; lot++) {
                t.is(990 + lot, "bid", lot, 4, 1 + lot);
                t.is(1, "bidOf", lot, 0);
                t.is(1 + lot, "bidOf", lot, 4);
            }
        });
    }

    private void bidRefused() {
        test(28, "Throws `NoSuchElementException` if there is no such lot", t -> {
            t.refuses(ELEMENT, "bid", 0, 0, 1);
            t.lots(10, 10);
            t.call("pledge", 0, 10, 60);
            t.call("bid", 0, 0, 20);
            t.call("sell", 0);
            for (int lot : new int[] {MIN, -1, 0, 2, 3, MAX}) {
                t.refuses(ELEMENT, "bid", lot, 0, 1);
            }
        });
        test(28, "Throws `IllegalArgumentException` if the bidder or the bid is out of range", t -> {
            t.lots(10);
            t.call("bid", 0, 0, 20);
            for (int wrong : new int[] {MIN, -1, 1000, MAX}) {
                t.refuses(ARGUMENT, "bid", 0, wrong, 5);
                t.refuses(ARGUMENT, "bid", 0, 0, wrong);
                t.refuses(ARGUMENT, "bid", 0, wrong, wrong);
            }
        });
        test(28, SEVERAL, t -> {
            t.call("pledge", 0, 10, 1);
            t.refuses(ELEMENT, "bid", 0, 5, 1);
            t.refuses(ELEMENT, "bid", 0, 0, 0);
            t.refuses(ELEMENT, "bid", 1, -1, 1000);
        });
    }

    private void sellRefused() {
        test(29, "Throws `NoSuchElementException` if there is no such lot", t -> {
            t.refuses(ELEMENT, "sell", 0);
            t.lots(10, 10);
            t.call("pledge", 0, 10, 60);
            t.call("bid", 0, 0, 20);
            t.call("sell", 0);
            for (int lot : new int[] {MIN, -1, 0, 2, 3, MAX}) {
                t.refuses(ELEMENT, "sell", lot);
            }
        });
        test(29, "Throws `IllegalStateException` if no bid is as high as its loan", t -> {
            t.lots(30);
            t.refuses(STATE, "sell", 0);
            t.call("bid", 0, 0, 59);
            t.call("bid", 0, 4, 59);
            t.refuses(STATE, "sell", 0);
            t.call("bid", 0, 4, 60);
            t.is(60, "sell", 0);
            t.fresh();
            t.call("setPrice", 5);
            t.lots(200);
            t.call("bid", 0, 0, 999);
            t.refuses(STATE, "sell", 0);
        });
    }

    private void sellAlone() {
        test(29, ALONE, t -> {
            t.lots(10, 20);
            t.call("bid", 0, 4, 20);
            t.call("bid", 0, 3, 20);
            t.call("bid", 1, 4, 41);
            t.call("bid", 1, 0, 40);
            t.is(3, "buyerOf", 0);
            t.is(20, "sell", 0);
            t.is(4, "buyerOf", 1);
            t.is(40, "sell", 1);
        });
        test(34, ALONE, t -> {
            t.lots(10);
            t.call("bid", 0, 4, 20);
            t.is(4, "buyerOf", 0);
            t.call("bid", 0, 3, 20);
            t.is(3, "buyerOf", 0);
            t.call("bid", 0, 0, 20);
            t.is(0, "buyerOf", 0);
            t.call("bid", 0, 1, 999);
            t.is(1, "buyerOf", 0);
            t.call("bid", 0, 2, 999);
            t.is(1, "buyerOf", 0);
            t.call("bid", 0, 1, 998);
            t.is(2, "buyerOf", 0);
        });
    }

    private void sellPrice() {
        test(29, PAYING, t -> {
            t.lots(10, 10, 10, 10, 10);
            t.call("bid", 0, 2, 999);
            t.is(20, "sell", 0);
            t.call("bid", 1, 2, 999);
            t.call("bid", 1, 0, 19);
            t.is(20, "sell", 1);
            t.call("bid", 2, 2, 999);
            t.call("bid", 2, 4, 21);
            t.is(21, "sell", 2);
            t.call("bid", 3, 2, 999);
            t.call("bid", 3, 4, 999);
            t.is(999, "sell", 3);
            t.is(1900 + 20 + 20 + 21 + 999, "coins");
        });
        test(35, PAYING, t -> {
            t.lots(10);
            t.call("bid", 0, 2, 20);
            t.is(20, "priceOf", 0);
            t.call("bid", 0, 2, 999);
            t.is(20, "priceOf", 0);
            t.call("bid", 0, 0, 19);
            t.is(20, "priceOf", 0);
            t.call("bid", 0, 4, 21);
            t.is(21, "priceOf", 0);
            t.call("bid", 0, 0, 999);
            t.is(999, "priceOf", 0);
        });
    }

    private void oneCoin() {
        String sentence = "the bid must not be less than the loan of the lot";
        test(29, sentence, t -> {
            t.call("setPrice", 1);
            t.lots(1, 1);
            t.refuses(STATE, "sell", 0);
            t.call("bid", 0, 3, 1);
            t.is(3, "buyerOf", 0);
            t.is(1, "priceOf", 0);
            t.is(1, "sell", 0);
        });
        test(30, "each of them to a bidder whose bid for it is not less than its loan", t -> {
            t.call("setPrice", 1);
            t.lots(1, 1);
            t.call("bid", 1, 3, 1);
            t.is(1, "bestEvening");
            t.is(1, "bestEveningByTrying");
            t.refuses(ELEMENT, "eveningBuyerOf", 0);
            t.is(3, "eveningBuyerOf", 1);
            t.is(1, "sellEvening");
            t.refuses(STATE, "sellEvening");
        });
        test(35, PAYING, t -> {
            for (int second = 0; second < 5; second++) {
                t.fresh();
                t.lots(10);
                t.call("bid", 0, (second + 1) % 5, 40);
                t.call("bid", 0, (second + 2) % 5, 20);
                t.call("bid", 0, second, 21);
                t.is(21, "priceOf", 0);
                t.is(21, "sell", 0);
            }
        });
    }

    private void sold() {
        test(29, "A lot that is sold does not exist any more, nor do the bids for it.", t -> {
            t.lots(10, 10, 10);
            t.call("bid", 1, 0, 50);
            t.call("bid", 2, 1, 30);
            t.call("sell", 1);
            t.refuses(ELEMENT, "bidOf", 1, 0);
            t.refuses(ELEMENT, "minutesOf", 1);
            t.is(0, "lotAt", 0);
            t.is(2, "lotAt", 1);
            t.refuses(INDEX, "lotAt", 2);
            t.is(30, "bidOf", 2, 1);
            t.is(0, "bidOf", 2, 0);
            t.is(30, "bestEvening");
            t.call("sell", 2);
            t.refuses(STATE, "sellEvening");
        });
        test(30, "A lot that is sold does not exist any more, nor do the bids for it.", t -> {
            t.lots(10, 10, 10);
            t.call("bid", 0, 0, 50);
            t.call("bid", 1, 3, 5);
            t.call("bid", 2, 1, 30);
            t.is(80, "sellEvening");
            t.refuses(ELEMENT, "bidOf", 0, 0);
            t.refuses(ELEMENT, "loanOf", 2);
            t.is(1, "lotAt", 0);
            t.is(5, "bidOf", 1, 3);
            t.is(0, "bidOf", 1, 0);
            t.is(1, "lotCount");
        });
    }

    private void sellEveningRefused() {
        test(30, "Throws `IllegalStateException` if no lot can be sold", t -> {
            t.refuses(STATE, "sellEvening");
            t.call("pledge", 0, 10, 3);
            t.refuses(STATE, "sellEvening");
            t.lots(30);
            t.refuses(STATE, "sellEvening");
            t.call("bid", 1, 0, 59);
            t.call("bid", 1, 1, 1);
            t.refuses(STATE, "sellEvening");
            t.call("bid", 1, 1, 60);
            t.is(60, "sellEvening");
            t.refuses(STATE, "sellEvening");
        });
    }

    private void sellEvening() {
        test(30, EVENING, t -> {
            t.lots(10, 10, 10, 10, 10, 10, 10, 10, 10, 10);
            for (int lot = 0; lot < 10; lot++) {
                t.call("bid", lot, 2, 100 + lot);
            }
            t.is(109, "sellEvening");
            t.is(108, "sellEvening");
            t.is(8, "lotCount");
            t.call("bid", 0, 0, 20);
            t.call("bid", 1, 1, 19);
            t.call("bid", 2, 1, 999);
            t.call("bid", 2, 0, 998);
            t.is(1126, "sellEvening");
            t.is(5, "lotCount");
            t.is(19, "bidOf", 1, 1);
            t.is(50, "soldMinutes");
            t.is(1800 + 109 + 108 + 1126, "coins");
        });
    }

    private void lots() {
        test(31, "Returns the number of lots.", t -> {
            t.is(0, "lotCount");
            t.pledges(10);
            t.call("passDays", 60);
            t.is(0, "lotCount");
            t.call("passDays", 1);
            t.is(10, "lotCount");
        });
        test(32, "Returns a lot by its position in the order of tickets.", t -> {
            t.call("pledge", 0, 1, 20);
            t.call("pledge", 0, 1, 10);
            t.call("pledge", 0, 1, 1);
            t.call("passDays", 11);
            t.is(1, "lotAt", 0);
            t.is(2, "lotAt", 1);
            t.call("passDays", 10);
            for (int lot = 0; lot < 3; lot++) {
                t.is(lot, "lotAt", lot);
            }
        });
        test(32, "- `position`: the position, from 0", t -> {
            t.pledges(1);
            t.lots(1, 1, 1);
            t.refuses(INDEX, "lotAt", -1);
            t.is(1, "lotAt", 0);
            t.is(3, "lotAt", 2);
            t.refuses(INDEX, "lotAt", 3);
        });
        test(32, "Throws `IndexOutOfBoundsException` if there is no such position", t -> {
            t.refuses(INDEX, "lotAt", 0);
            t.pledges(3);
            t.refuses(INDEX, "lotAt", 0);
            t.lots(1, 1, 1, 1, 1, 1, 1);
            for (int position : new int[] {MIN, -1, 7, 9, 10, MAX}) {
                t.refuses(INDEX, "lotAt", position);
            }
            t.call("passDays", 60);
            t.is(9, "lotAt", 9);
            t.refuses(INDEX, "lotAt", 10);
        });
    }

    private void bidOf() {
        test(33, "- `bidder`: the bidder, 0 to 4", t -> {
            t.lots(10);
            t.call("bid", 0, 0, 5);
            t.call("bid", 0, 4, 6);
            t.refuses(ARGUMENT, "bidOf", 0, -1);
            t.is(5, "bidOf", 0, 0);
            t.is(6, "bidOf", 0, 4);
            t.refuses(ARGUMENT, "bidOf", 0, 5);
        });
        test(33, "Returns the number of coins, 0 if there is none.", t -> {
            t.lots(10, 10);
            for (int bidder = 0; bidder < 5; bidder++) {
                t.is(0, "bidOf", 1, bidder);
            }
            t.call("bid", 1, 2, 1);
            t.is(1, "bidOf", 1, 2);
            t.is(0, "bidOf", 1, 1);
            t.is(0, "bidOf", 1, 3);
            t.is(0, "bidOf", 0, 2);
        });
        test(33, "Throws `NoSuchElementException` if there is no such lot", t -> {
            t.refuses(ELEMENT, "bidOf", 0, 0);
            t.lots(10, 10);
            t.call("pledge", 0, 10, 60);
            t.call("bid", 0, 0, 20);
            t.call("sell", 0);
            for (int lot : new int[] {MIN, -1, 0, 2, 3, MAX}) {
                t.refuses(ELEMENT, "bidOf", lot, 0);
            }
        });
        test(33, "Throws `IllegalArgumentException` if there is no such bidder", t -> {
            t.lots(10);
            for (int bidder : new int[] {MIN, -1, 5, MAX}) {
                t.refuses(ARGUMENT, "bidOf", 0, bidder);
            }
        });
        test(33, SEVERAL, t -> {
            t.call("pledge", 0, 10, 60);
            t.refuses(ELEMENT, "bidOf", 0, 5);
            t.refuses(ELEMENT, "bidOf", 1, -1);
        });
    }

    private void buyerAndPrice() {
        String sentence = "Throws `NoSuchElementException` if there is no such lot, or no bid is as high as its loan";
        test(34, sentence, t -> refusedOfUnsellable(t, "buyerOf", 4));
        test(35, sentence, t -> refusedOfUnsellable(t, "priceOf", 60));
    }

    private void refusedOfUnsellable(Bench t, String name, int atTheLoan) {
        t.refuses(ELEMENT, name, 0);
        t.lots(30, 10, 10);
        t.call("pledge", 0, 10, 60);
        t.call("bid", 1, 0, 20);
        t.call("sell", 1);
        for (int lot : new int[] {MIN, -1, 0, 1, 2, 3, 4, MAX}) {
            t.refuses(ELEMENT, name, lot);
        }
        t.call("bid", 0, 4, 59);
        t.call("bid", 0, 1, 59);
        t.refuses(ELEMENT, name, 0);
        t.call("bid", 0, 4, 60);
        t.is(atTheLoan, name, 0);
    }

    private void bestEvening(int promise, String name) {
        test(promise, "Returns the number of coins, 0 if no lot can be sold.", t -> {
            t.is(0, name);
            t.call("pledge", 0, 10, 60);
            t.is(0, name);
            t.lots(30, 30);
            t.is(0, name);
            t.call("bid", 1, 0, 59);
            t.call("bid", 2, 4, 59);
            t.is(0, name);
            t.call("bid", 2, 4, 60);
            t.is(60, name);
        });
        test(promise, EVENING, t -> {
            t.lots(1, 1, 1, 1, 1, 1, 1, 1, 1, 1);
            for (int lot = 0; lot < 10; lot++) {
                t.call("bid", lot, 0, 990 + lot);
            }
            t.is(999, name);
            for (int bidder = 1; bidder < 5; bidder++) {
                t.call("bid", bidder, bidder, 100);
            }
            t.is(1399, name);
            t.call("bid", 9, 4, 999);
            t.is(999 + 998 + 300, name);
        });
        test(promise, MOST, t -> {
            t.lots(10, 10);
            t.call("bid", 0, 0, 50);
            t.call("bid", 0, 1, 49);
            t.is(50, name);
            t.call("bid", 1, 0, 40);
            t.is(89, name);
            t.call("bid", 0, 0, 90);
            t.is(90, name);
            t.call("bid", 0, 0, 89);
            t.is(89, name);
            t.call("bid", 0, 1, 50);
            t.is(90, name);
        });
        test(promise, MOST, t -> {
            t.lots(1, 1, 1, 1, 1);
            for (int lot = 0; lot < 5; lot++) {
                for (int bidder = 0; bidder < 5; bidder++) {
                    t.call("bid", lot, bidder, lot == bidder ? 10 : lot + bidder == 4 ? 11 : 9);
                }
            }
            t.is(54, name);
        });
    }

    private void allBidders(int promise, String name, String sentence) {
        test(promise, sentence, t -> {
            t.lots(1, 1, 1, 1, 1, 1);
            for (int lot = 0; lot < 5; lot++) {
                t.call("bid", lot, lot, 10);
            }
            t.is(50, name);
            t.call("bid", 5, 4, 10);
            t.is(50, name);
            t.call("bid", 5, 4, 11);
            t.is(51, name);
            t.call("bid", 4, 0, 11);
            t.is(52, name);
            t.call("bid", 0, 3, 12);
            t.is(54, name);
        });
    }

    private void eveningBuyerRefused() {
        test(38, "Throws `NoSuchElementException` if there is no such lot, or it would not be sold", t -> {
            t.refuses(ELEMENT, "eveningBuyerOf", 0);
            t.lots(30, 10, 10, 10);
            t.call("pledge", 0, 10, 60);
            t.call("bid", 1, 0, 20);
            t.call("sell", 1);
            t.call("bid", 0, 0, 59);
            t.call("bid", 2, 3, 25);
            t.call("bid", 3, 3, 26);
            for (int lot : new int[] {MIN, -1, 0, 1, 2, 4, 5, MAX}) {
                t.refuses(ELEMENT, "eveningBuyerOf", lot);
            }
            t.is(3, "eveningBuyerOf", 3);
            t.call("bid", 0, 0, 60);
            t.is(0, "eveningBuyerOf", 0);
        });
    }

    private void equalEvenings() {
        test(38, EQUAL, t -> {
            t.lots(10, 10, 10);
            t.call("bid", 1, 4, 30);
            t.call("bid", 2, 4, 30);
            dueBuyers(t, ELEMENT, 4, ELEMENT);
            t.call("bid", 1, 3, 30);
            dueBuyers(t, ELEMENT, 3, 4);
            t.call("bid", 2, 3, 30);
            dueBuyers(t, ELEMENT, 3, 4);
            t.call("bid", 0, 4, 30);
            dueBuyers(t, 4, 3, ELEMENT);
        });
        test(38, EQUAL, t -> {
            t.lots(10, 10);
            t.call("bid", 0, 0, 50);
            t.call("bid", 0, 1, 60);
            t.call("bid", 1, 0, 40);
            t.call("bid", 1, 1, 50);
            dueBuyers(t, 0, 1);
            t.call("bid", 1, 0, 41);
            dueBuyers(t, 1, 0);
        });
        test(38, EQUAL, t -> {
            t.lots(10, 10);
            t.call("bid", 0, 0, 30);
            t.call("bid", 1, 0, 60);
            t.call("bid", 1, 1, 30);
            dueBuyers(t, 0, 1);
            t.call("bid", 1, 0, 61);
            dueBuyers(t, ELEMENT, 0);
        });
        test(30, EQUAL, t -> {
            t.lots(10, 10);
            t.call("bid", 0, 2, 30);
            t.call("bid", 1, 2, 30);
            t.is(30, "sellEvening");
            t.is(1, "lotAt", 0);
        });
        test(38, EQUAL, t -> {
            t.lots(1, 1, 1, 1, 1, 1, 1, 1, 1, 1);
            for (int lot = 0; lot < 10; lot++) {
                for (int bidder = 0; bidder < 5; bidder++) {
                    t.call("bid", lot, bidder, 7);
                }
            }
            dueBuyers(t, 0, 1, 2, 3, 4, ELEMENT, ELEMENT, ELEMENT, ELEMENT, ELEMENT);
        });
    }

    private static void dueBuyers(Bench t, Object... buyers) {
        for (int lot = 0; lot < buyers.length; lot++) {
            t.is(buyers[lot], "eveningBuyerOf", lot);
        }
    }
}
