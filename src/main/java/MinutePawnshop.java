import java.util.Arrays;
import java.util.NoSuchElementException;

/** A pawnshop for spare minutes. */
public final class MinutePawnshop {
    private static final int NONE = -1;
    private static final int WEEKDAYS = 7;
    private static final int MAX_RATE = 9;
    private static final int CUSTOMERS = 6;
    private static final int MAX_ITEMS = 10;
    private static final int MAX_MINUTES = 240;
    private static final int MAX_TERM = 60;
    private static final int MAX_DAYS = 90;
    private static final int MAX_PRICE = 9;
    private static final int MAX_PURSE = 9999;
    private static final int FIRST_COINS = 2000;
    private static final int FIRST_PRICE = 2;
    private static final int FIRST_RATE = 1;
    private static final int BIDDERS = 5;
    private static final int BIDDER_SETS = 1 << BIDDERS;
    private static final int MAX_BID = 999;
    private static final int UNDO_LIMIT = 8;
    private static final int BUFFER_LIMIT = 60;
    private static final int FIRST_CHARACTER = 32;
    private static final int LAST_CHARACTER = 126;

    private final Shop shop = new Shop();
    private final Shop snapshot = new Shop();
    private boolean hasSnapshot = false;
    private final History history = new History();
    private final Redemption redemption = new Redemption();
    private final Evening evening = new Evening();
    private final Program program = new Program();
    private final StringBuilder slip = new StringBuilder();
    private int lastErrorPosition = NONE;
    private int lastFailedCommand = NONE;

    public MinutePawnshop() {
    }

    // ---- pledges

    public int pledge(int customer, int minutes, int term)
            throws IllegalArgumentException, IllegalStateException, UnsupportedOperationException {
        history.prepare(shop);
        int ticket = shop.takePledge(customer, minutes, term);
        history.keepPrepared();
        return ticket;
    }

    public int redeem(int ticket) throws NoSuchElementException {
        history.prepare(shop);
        int debt = shop.redeemPledge(ticket);
        history.keepPrepared();
        return debt;
    }

    public int extend(int ticket, int days) throws NoSuchElementException, IllegalArgumentException {
        history.prepare(shop);
        int interest = shop.extendPledge(ticket, days);
        history.keepPrepared();
        return interest;
    }

    public int passDays(int days) throws IllegalArgumentException {
        history.prepare(shop);
        int forfeited = shop.letDaysPass(days);
        history.keepPrepared();
        return forfeited;
    }

    public int setPrice(int coins) throws IllegalArgumentException {
        history.prepare(shop);
        int previous = shop.changePrice(coins);
        history.keepPrepared();
        return previous;
    }

    public int setRate(int weekday, int rate) throws IllegalArgumentException {
        history.prepare(shop);
        int previous = shop.calendar.changeRate(weekday, rate);
        history.keepPrepared();
        return previous;
    }

    public int day() {
        return shop.calendar.today;
    }

    public int price() {
        return shop.coinsPerMinute;
    }

    public int rateOf(int weekday) throws IllegalArgumentException {
        if (weekday < 0 || weekday >= WEEKDAYS) {
            throw new IllegalArgumentException("no such weekday");
        }
        return shop.calendar.rates[weekday];
    }

    public int coins() {
        return shop.accounts.coinsNow;
    }

    public int coinsByAccounts() {
        return shop.accounts.coinsFromSums();
    }

    public int pledgeCount() {
        return shop.countOf(false);
    }

    public int pledgeAt(int position) throws IndexOutOfBoundsException {
        Item item = shop.nthOf(false, position);
        if (item == null) {
            throw new IndexOutOfBoundsException("no pledge at this position");
        }
        return item.ticket;
    }

    public int customerOf(int ticket) throws NoSuchElementException {
        return shop.requirePledge(ticket).customer;
    }

    public int minutesOf(int ticket) throws NoSuchElementException {
        return shop.requireItem(ticket).minutes;
    }

    public int loanOf(int ticket) throws NoSuchElementException {
        return shop.requireItem(ticket).loan;
    }

    public int dueDayOf(int ticket) throws NoSuchElementException {
        return shop.requirePledge(ticket).dueDay;
    }

    public int pledgeByDueDay(int place) throws NoSuchElementException {
        Item item = shop.pledgeOfDueRank(place);
        if (item == null) {
            throw new NoSuchElementException("no such place");
        }
        return item.ticket;
    }

    // ---- interest and redemptions

    public int interestOf(int ticket) throws NoSuchElementException {
        return shop.interestByDays(shop.requirePledge(ticket), 0);
    }

    public int interestByWeeks(int ticket) throws NoSuchElementException {
        return shop.interestFromWeeks(shop.requirePledge(ticket));
    }

    public int debtAfter(int ticket, int days) throws NoSuchElementException, IllegalArgumentException {
        Item pledge = shop.requirePledge(ticket);
        if (days < 0 || days > MAX_DAYS) {
            throw new IllegalArgumentException("days out of range");
        }
        return pledge.loan + shop.interestByDays(pledge, days);
    }

    public int cheapestWeekday() {
        return shop.calendar.weekdayOfLeastRate();
    }

    public int mostMinutes(int customer, int coins) throws IllegalArgumentException {
        checkPurse(customer, coins);
        redemption.collect(shop, customer);
        return redemption.mostBySets(coins);
    }

    public int mostMinutesByTable(int customer, int coins) throws IllegalArgumentException {
        checkPurse(customer, coins);
        redemption.collect(shop, customer);
        return redemption.mostByTable(coins);
    }

    private static void checkPurse(int customer, int coins) {
        if (customer < 0 || customer >= CUSTOMERS || coins < 0 || coins > MAX_PURSE) {
            throw new IllegalArgumentException("customer or coins out of range");
        }
    }

    public int debtOf(int customer) throws IllegalArgumentException {
        if (customer < 0 || customer >= CUSTOMERS) {
            throw new IllegalArgumentException("no such customer");
        }
        redemption.collect(shop, customer);
        return redemption.wholeDebt();
    }

    public int daysToForfeit() throws NoSuchElementException {
        Item next = shop.pledgeOfDueRank(0);
        if (next == null) {
            throw new NoSuchElementException("no pledges");
        }
        return next.dueDay + 1 - shop.calendar.today;
    }

    // ---- auctions

    public int bid(int lot, int bidder, int coins) throws NoSuchElementException, IllegalArgumentException {
        history.prepare(shop);
        int previous = shop.placeBid(lot, bidder, coins);
        history.keepPrepared();
        return previous;
    }

    public int sell(int lot) throws NoSuchElementException, IllegalStateException {
        history.prepare(shop);
        int paid = shop.sellLot(lot);
        history.keepPrepared();
        return paid;
    }

    public int sellEvening() throws IllegalStateException {
        history.prepare(shop);
        int paid = shop.sellLotsOf(evening);
        history.keepPrepared();
        return paid;
    }

    public int lotCount() {
        return shop.countOf(true);
    }

    public int lotAt(int position) throws IndexOutOfBoundsException {
        Item item = shop.nthOf(true, position);
        if (item == null) {
            throw new IndexOutOfBoundsException("no lot at this position");
        }
        return item.ticket;
    }

    public int bidOf(int lot, int bidder) throws NoSuchElementException, IllegalArgumentException {
        Item item = shop.requireLot(lot);
        if (bidder < 0 || bidder >= BIDDERS) {
            throw new IllegalArgumentException("no such bidder");
        }
        return item.bids[bidder];
    }

    public int buyerOf(int lot) throws NoSuchElementException {
        Item item = shop.requireLot(lot);
        int buyer = item.buyerAlone();
        if (buyer == NONE) {
            throw new NoSuchElementException("no bid is as high as the loan");
        }
        return buyer;
    }

    public int priceOf(int lot) throws NoSuchElementException {
        Item item = shop.requireLot(lot);
        int buyer = item.buyerAlone();
        if (buyer == NONE) {
            throw new NoSuchElementException("no bid is as high as the loan");
        }
        return item.priceAlone(buyer);
    }

    public int bestEvening() {
        return evening.bestSum(shop);
    }

    public int bestEveningByTrying() {
        return evening.bestSumByTrying(shop);
    }

    public int eveningBuyerOf(int lot) throws NoSuchElementException {
        Item item = shop.requireLot(lot);
        evening.plan(shop);
        int buyer = evening.buyerAt(shop.indexOf(item.ticket));
        if (buyer == NONE) {
            throw new NoSuchElementException("the lot would not be sold");
        }
        return buyer;
    }

    // ---- accounts

    public int redeemedMinutes() {
        return shop.accounts.minutesRedeemed;
    }

    public int forfeitedMinutes() {
        return shop.accounts.minutesForfeited;
    }

    public int soldMinutes() {
        return shop.accounts.minutesSold;
    }

    public long pledgedMinutes() {
        return shop.accounts.minutesPledged;
    }

    public double meanLoan() throws ArithmeticException {
        int pledges = shop.countOf(false);
        if (pledges == 0) {
            throw new ArithmeticException("no pledges");
        }
        return (double) shop.sumOfPledgedLoans() / (double) pledges;
    }

    public boolean isConsistent() {
        Accounts accounts = shop.accounts;
        long accounted = (long) shop.minutesInStock() + accounts.minutesRedeemed + accounts.minutesSold;
        return accounts.minutesPledged == accounted
                && accounts.coinsNow == accounts.coinsFromSums()
                && shop.interestsAgree();
    }

    // ---- slip and programs

    public int writeSlip(int ticket) throws NoSuchElementException {
        Item item = shop.requireItem(ticket);
        slip.setLength(0);
        slip.append('#').append(item.ticket);
        slip.append(' ').append(item.minutes).append("min");
        slip.append(' ').append(item.loan).append('c');
        if (item.isLot) {
            appendBids(item);
        } else {
            appendDueDay(item);
        }
        return slip.length();
    }

    private void appendDueDay(Item pledge) {
        slip.append(" by ").append(pledge.dueDay);
        if (pledge.dueDay == shop.calendar.today) {
            slip.append('?');
        }
    }

    private void appendBids(Item lot) {
        slip.append(" lot");
        for (int bidder = 0; bidder < BIDDERS; bidder++) {
            if (lot.bids[bidder] > 0) {
                slip.append(' ').append(bidder).append(':').append(lot.bids[bidder]);
            }
        }
    }

    public char slipAt(int index) throws IndexOutOfBoundsException {
        if (index < 0 || index >= slip.length()) {
            throw new IndexOutOfBoundsException("no such character");
        }
        return slip.charAt(index);
    }

    public int type(char character) throws IllegalArgumentException, IllegalStateException {
        if (character < FIRST_CHARACTER || character > LAST_CHARACTER) {
            throw new IllegalArgumentException("character out of range");
        }
        if (program.length >= BUFFER_LIMIT) {
            throw new IllegalStateException("the buffer is full");
        }
        return program.add(character);
    }

    public int execute() throws IllegalArgumentException, IllegalStateException {
        boolean wellFormed = program.parse();
        program.empty();
        if (!wellFormed) {
            lastErrorPosition = program.errorAt;
            throw new IllegalArgumentException("malformed program");
        }
        history.prepare(shop);
        int done = 0;
        while (done < program.commandCount && succeeds(program.commands[done], program.numbers[done])) {
            done++;
        }
        if (done < program.commandCount) {
            history.bringPreparedTo(shop);
            lastFailedCommand = done;
            throw new IllegalStateException("a command failed");
        }
        history.keepPrepared();
        return program.commandCount;
    }

    private boolean succeeds(Command command, int[] numbers) {
        try {
            run(command, numbers[0], numbers[1], numbers[2]);
            return true;
        } catch (NoSuchElementException e) {
            return false;
        } catch (IllegalArgumentException e) {
            return false;
        } catch (IllegalStateException e) {
            return false;
        } catch (UnsupportedOperationException e) {
            return false;
        }
    }

    private void run(Command command, int first, int second, int third) {
        switch (command) {
            case PLEDGE:
                shop.takePledge(first, second, third);
                break;
            case REDEEM:
                shop.redeemPledge(first);
                break;
            case EXTEND:
                shop.extendPledge(first, second);
                break;
            case DAYS:
                shop.letDaysPass(first);
                break;
            case PRICE:
                shop.changePrice(first);
                break;
            case RATE:
                shop.calendar.changeRate(first, second);
                break;
            case BID:
                shop.placeBid(first, second, third);
                break;
            case SELL:
                shop.sellLot(first);
                break;
            case EVENING:
                shop.sellLotsOf(evening);
                break;
            default:
                break;
        }
    }

    public int errorPosition() throws NoSuchElementException {
        if (lastErrorPosition == NONE) {
            throw new NoSuchElementException("no program was malformed");
        }
        return lastErrorPosition;
    }

    public int failedCommand() throws NoSuchElementException {
        if (lastFailedCommand == NONE) {
            throw new NoSuchElementException("no command failed");
        }
        return lastFailedCommand;
    }

    // ---- undo and snapshots

    public int undo() throws IllegalStateException {
        if (history.kept == 0) {
            throw new IllegalStateException("nothing can be undone");
        }
        history.stepBack(shop);
        return history.kept;
    }

    public int save() {
        snapshot.copyFrom(shop);
        hasSnapshot = true;
        return shop.calendar.today;
    }

    public int restore() throws IllegalStateException {
        if (!hasSnapshot) {
            throw new IllegalStateException("no snapshot");
        }
        shop.copyFrom(snapshot);
        history.forget();
        return shop.calendar.today;
    }

    /** A pledge, or the lot that it has become. */
    private static final class Item {
        int ticket;
        int customer;
        int minutes;
        int loan;
        int firstDay;
        int dueDay;
        boolean isLot;
        final int[] bids = new int[BIDDERS];

        void copyFrom(Item other) {
            ticket = other.ticket;
            customer = other.customer;
            minutes = other.minutes;
            loan = other.loan;
            firstDay = other.firstDay;
            dueDay = other.dueDay;
            isLot = other.isLot;
            System.arraycopy(other.bids, 0, bids, 0, BIDDERS);
        }

        /** A missing bid is 0 and every loan is at least 1, so it is never high enough. */
        int buyerAlone() {
            int buyer = 0;
            for (int bidder = 1; bidder < BIDDERS; bidder++) {
                if (bids[bidder] > bids[buyer]) {
                    buyer = bidder;
                }
            }
            return bids[buyer] >= loan ? buyer : NONE;
        }

        int priceAlone(int buyer) {
            int paid = loan;
            for (int bidder = 0; bidder < BIDDERS; bidder++) {
                if (bidder != buyer) {
                    paid = Math.max(paid, bids[bidder]);
                }
            }
            return paid;
        }
    }

    /** The present day and the rates of the weekdays. */
    private static final class Calendar {
        int today = 0;
        final int[] rates = new int[WEEKDAYS];

        Calendar() {
            Arrays.fill(rates, FIRST_RATE);
        }

        void copyFrom(Calendar other) {
            today = other.today;
            System.arraycopy(other.rates, 0, rates, 0, WEEKDAYS);
        }

        int changeRate(int weekday, int rate) {
            if (weekday < 0 || weekday >= WEEKDAYS || rate < 0 || rate > MAX_RATE) {
                throw new IllegalArgumentException("weekday or rate out of range");
            }
            int previous = rates[weekday];
            rates[weekday] = rate;
            return previous;
        }

        int sumByDays(int firstDay, int lastDay) {
            int sum = 0;
            for (int day = firstDay + 1; day <= lastDay; day++) {
                sum += rates[Math.floorMod(day, WEEKDAYS)];
            }
            return sum;
        }

        int sumByWeeks(int firstDay, int lastDay) {
            int ofWeek = 0;
            for (int weekday = 0; weekday < WEEKDAYS; weekday++) {
                ofWeek += rates[weekday];
            }
            int days = lastDay - firstDay;
            int sum = days / WEEKDAYS * ofWeek;
            for (int left = 1; left <= days % WEEKDAYS; left++) {
                sum += rates[Math.floorMod(firstDay + left, WEEKDAYS)];
            }
            return sum;
        }

        int weekdayOfLeastRate() {
            int cheapest = Math.floorMod(today, WEEKDAYS);
            for (int ahead = 1; ahead < WEEKDAYS; ahead++) {
                int weekday = Math.floorMod(today + ahead, WEEKDAYS);
                if (rates[weekday] < rates[cheapest]) {
                    cheapest = weekday;
                }
            }
            return cheapest;
        }
    }

    /** The coins, and the sums of all coins and minutes that have come and gone. */
    private static final class Accounts {
        int coinsNow = FIRST_COINS;
        int coinsLent = 0;
        int coinsForRedeeming = 0;
        int coinsForExtending = 0;
        int coinsInAuctions = 0;
        long minutesPledged = 0;
        int minutesRedeemed = 0;
        int minutesForfeited = 0;
        int minutesSold = 0;

        void copyFrom(Accounts other) {
            coinsNow = other.coinsNow;
            coinsLent = other.coinsLent;
            coinsForRedeeming = other.coinsForRedeeming;
            coinsForExtending = other.coinsForExtending;
            coinsInAuctions = other.coinsInAuctions;
            minutesPledged = other.minutesPledged;
            minutesRedeemed = other.minutesRedeemed;
            minutesForfeited = other.minutesForfeited;
            minutesSold = other.minutesSold;
        }

        int coinsFromSums() {
            return FIRST_COINS - coinsLent + coinsForRedeeming + coinsForExtending + coinsInAuctions;
        }

        void enterPledge(int loan, int minutes) {
            coinsNow -= loan;
            coinsLent += loan;
            minutesPledged += minutes;
        }

        void enterRedemption(int debt, int minutes) {
            coinsNow += debt;
            coinsForRedeeming += debt;
            minutesRedeemed += minutes;
        }

        void enterExtension(int interest) {
            coinsNow += interest;
            coinsForExtending += interest;
        }

        void enterSale(int paid, int minutes) {
            coinsNow += paid;
            coinsInAuctions += paid;
            minutesSold += minutes;
        }
    }

    /** All that undo and restore bring back. The items stand in the order of their tickets. */
    private static final class Shop {
        final Calendar calendar = new Calendar();
        final Accounts accounts = new Accounts();
        int coinsPerMinute = FIRST_PRICE;
        int nextTicket = 0;
        final Item[] items = new Item[MAX_ITEMS];
        int itemCount = 0;

        Shop() {
            for (int i = 0; i < MAX_ITEMS; i++) {
                items[i] = new Item();
            }
        }

        void copyFrom(Shop other) {
            calendar.copyFrom(other.calendar);
            accounts.copyFrom(other.accounts);
            coinsPerMinute = other.coinsPerMinute;
            nextTicket = other.nextTicket;
            itemCount = other.itemCount;
            for (int i = 0; i < itemCount; i++) {
                items[i].copyFrom(other.items[i]);
            }
        }

        int indexOf(int ticket) {
            for (int i = 0; i < itemCount; i++) {
                if (items[i].ticket == ticket) {
                    return i;
                }
            }
            return NONE;
        }

        Item requireItem(int ticket) {
            int index = indexOf(ticket);
            if (index == NONE) {
                throw new NoSuchElementException("no such pledge or lot");
            }
            return items[index];
        }

        Item requirePledge(int ticket) {
            int index = indexOf(ticket);
            if (index == NONE || items[index].isLot) {
                throw new NoSuchElementException("no such pledge");
            }
            return items[index];
        }

        Item requireLot(int ticket) {
            int index = indexOf(ticket);
            if (index == NONE || !items[index].isLot) {
                throw new NoSuchElementException("no such lot");
            }
            return items[index];
        }

        int countOf(boolean lots) {
            int count = 0;
            for (int i = 0; i < itemCount; i++) {
                if (items[i].isLot == lots) {
                    count++;
                }
            }
            return count;
        }

        /** Returns the pledge or lot at a position among its like, or null. */
        Item nthOf(boolean lots, int position) {
            int passed = 0;
            for (int i = 0; i < itemCount; i++) {
                if (items[i].isLot == lots) {
                    if (passed == position) {
                        return items[i];
                    }
                    passed++;
                }
            }
            return null;
        }

        /** Returns the pledge at a place in the order of due days, or null. */
        Item pledgeOfDueRank(int place) {
            for (int i = 0; i < itemCount; i++) {
                if (!items[i].isLot && pledgesDueBefore(i) == place) {
                    return items[i];
                }
            }
            return null;
        }

        private int pledgesDueBefore(int index) {
            int dueDay = items[index].dueDay;
            int before = 0;
            for (int i = 0; i < itemCount; i++) {
                boolean isEarlier = items[i].dueDay < dueDay || items[i].dueDay == dueDay && i < index;
                if (!items[i].isLot && isEarlier) {
                    before++;
                }
            }
            return before;
        }

        int takePledge(int customer, int minutes, int term) {
            if (customer < 0 || customer >= CUSTOMERS || minutes < 1 || minutes > MAX_MINUTES
                    || term < 1 || term > MAX_TERM) {
                throw new IllegalArgumentException("customer, minutes or term out of range");
            }
            if (itemCount >= MAX_ITEMS) {
                throw new IllegalStateException("no room for a pledge");
            }
            int loan = minutes * coinsPerMinute;
            if (accounts.coinsNow < loan) {
                throw new UnsupportedOperationException("too few coins for the loan");
            }
            Item pledge = items[itemCount];
            itemCount++;
            pledge.ticket = nextTicket;
            nextTicket++;
            pledge.customer = customer;
            pledge.minutes = minutes;
            pledge.loan = loan;
            pledge.firstDay = calendar.today;
            pledge.dueDay = calendar.today + term;
            pledge.isLot = false;
            accounts.enterPledge(loan, minutes);
            return pledge.ticket;
        }

        int redeemPledge(int ticket) {
            Item pledge = requirePledge(ticket);
            int debt = pledge.loan + interestByDays(pledge, 0);
            accounts.enterRedemption(debt, pledge.minutes);
            removeAt(indexOf(ticket));
            return debt;
        }

        int extendPledge(int ticket, int days) {
            Item pledge = requirePledge(ticket);
            if (days < 1 || days > MAX_TERM) {
                throw new IllegalArgumentException("days out of range");
            }
            int interest = interestByDays(pledge, 0);
            accounts.enterExtension(interest);
            pledge.firstDay = calendar.today;
            pledge.dueDay = calendar.today + days;
            return interest;
        }

        int letDaysPass(int days) {
            if (days < 1 || days > MAX_DAYS) {
                throw new IllegalArgumentException("days out of range");
            }
            int forfeited = 0;
            for (int passed = 0; passed < days; passed++) {
                calendar.today++;
                forfeited += forfeitOverdue();
            }
            return forfeited;
        }

        private int forfeitOverdue() {
            int forfeited = 0;
            for (int i = 0; i < itemCount; i++) {
                if (!items[i].isLot && items[i].dueDay < calendar.today) {
                    items[i].isLot = true;
                    Arrays.fill(items[i].bids, 0);
                    accounts.minutesForfeited += items[i].minutes;
                    forfeited++;
                }
            }
            return forfeited;
        }

        int changePrice(int coins) {
            if (coins < 1 || coins > MAX_PRICE) {
                throw new IllegalArgumentException("price out of range");
            }
            int previous = coinsPerMinute;
            coinsPerMinute = coins;
            return previous;
        }

        int interestByDays(Item pledge, int daysFromNow) {
            return pledge.loan * calendar.sumByDays(pledge.firstDay, calendar.today + daysFromNow) / 100;
        }

        int interestFromWeeks(Item pledge) {
            return pledge.loan * calendar.sumByWeeks(pledge.firstDay, calendar.today) / 100;
        }

        int placeBid(int lot, int bidder, int coins) {
            Item item = requireLot(lot);
            if (bidder < 0 || bidder >= BIDDERS || coins < 1 || coins > MAX_BID) {
                throw new IllegalArgumentException("bidder or bid out of range");
            }
            int previous = item.bids[bidder];
            item.bids[bidder] = coins;
            return previous;
        }

        int sellLot(int lot) {
            Item item = requireLot(lot);
            int buyer = item.buyerAlone();
            if (buyer == NONE) {
                throw new IllegalStateException("no bid is as high as the loan");
            }
            int paid = item.priceAlone(buyer);
            accounts.enterSale(paid, item.minutes);
            removeAt(indexOf(lot));
            return paid;
        }

        int sellLotsOf(Evening evening) {
            int sum = evening.plan(this);
            if (sum == 0) {
                throw new IllegalStateException("no lot can be sold");
            }
            // From the last item on, so that the plan's indices of the others stay true.
            for (int i = itemCount - 1; i >= 0; i--) {
                int buyer = evening.buyerAt(i);
                if (buyer != NONE) {
                    accounts.enterSale(items[i].bids[buyer], items[i].minutes);
                    removeAt(i);
                }
            }
            return sum;
        }

        /** The removed item goes behind the others, to be used again by a later pledge. */
        private void removeAt(int index) {
            if (index < 0 || index >= itemCount) {
                return;
            }
            Item removed = items[index];
            itemCount--;
            for (int i = index; i < itemCount; i++) {
                items[i] = items[i + 1];
            }
            items[itemCount] = removed;
        }

        int minutesInStock() {
            int minutes = 0;
            for (int i = 0; i < itemCount; i++) {
                minutes += items[i].minutes;
            }
            return minutes;
        }

        int sumOfPledgedLoans() {
            int sum = 0;
            for (int i = 0; i < itemCount; i++) {
                if (!items[i].isLot) {
                    sum += items[i].loan;
                }
            }
            return sum;
        }

        boolean interestsAgree() {
            for (int i = 0; i < itemCount; i++) {
                if (!items[i].isLot && interestByDays(items[i], 0) != interestFromWeeks(items[i])) {
                    return false;
                }
            }
            return true;
        }
    }

    /** Finds what a customer can redeem. Its rows are made once and used by every call. */
    private static final class Redemption {
        /** Far above all debts together. */
        private static final int UNREACHED = 1000000000;

        private final int[] debts = new int[MAX_ITEMS];
        private final int[] minutes = new int[MAX_ITEMS];
        private int count = 0;
        private final int[] coinsOfSet = new int[1 << MAX_ITEMS];
        private final int[] minutesOfSet = new int[1 << MAX_ITEMS];
        private final int[] leastCoins = new int[MAX_ITEMS * MAX_MINUTES + 1];

        void collect(Shop shop, int customer) {
            count = 0;
            for (int i = 0; i < shop.itemCount; i++) {
                Item item = shop.items[i];
                if (!item.isLot && item.customer == customer) {
                    debts[count] = item.loan + shop.interestByDays(item, 0);
                    minutes[count] = item.minutes;
                    count++;
                }
            }
        }

        int wholeDebt() {
            int sum = 0;
            for (int i = 0; i < count; i++) {
                sum += debts[i];
            }
            return sum;
        }

        int mostBySets(int coins) {
            fillSets();
            int most = 0;
            for (int set = 0; set < 1 << count; set++) {
                if (coinsOfSet[set] <= coins) {
                    most = Math.max(most, minutesOfSet[set]);
                }
            }
            return most;
        }

        /** The sets that hold pledge i are those of the pledges before it, with it added. */
        private void fillSets() {
            coinsOfSet[0] = 0;
            minutesOfSet[0] = 0;
            for (int i = 0; i < count; i++) {
                int withPledge = 1 << i;
                for (int set = 0; set < withPledge; set++) {
                    coinsOfSet[withPledge + set] = coinsOfSet[set] + debts[i];
                    minutesOfSet[withPledge + set] = minutesOfSet[set] + minutes[i];
                }
            }
        }

        int mostByTable(int coins) {
            int most = fillTable();
            while (most > 0 && leastCoins[most] > coins) {
                most--;
            }
            return most;
        }

        /** Returns the greatest number of minutes in the table. */
        private int fillTable() {
            leastCoins[0] = 0;
            int highest = 0;
            for (int i = 0; i < count; i++) {
                int before = highest;
                highest += minutes[i];
                Arrays.fill(leastCoins, before + 1, highest + 1, UNREACHED);
                addToTable(minutes[i], debts[i], highest);
            }
            return highest;
        }

        /** Downwards, so that the pledge is counted once at most. */
        private void addToTable(int added, int debt, int highest) {
            for (int sum = highest; sum >= added; sum--) {
                int without = leastCoins[sum - added];
                if (without != UNREACHED) {
                    leastCoins[sum] = Math.min(leastCoins[sum], without + debt);
                }
            }
        }
    }

    /**
     * Plans the best evening. It goes through all items in their order: for pledges there are no offers,
     * so they are left alone. A set of bidders is a mask of those who have bought already.
     */
    private static final class Evening {
        private final int[][] offers = new int[MAX_ITEMS][BIDDERS];
        private final int[][] bestFrom = new int[MAX_ITEMS + 1][BIDDER_SETS];
        private final int[][] topOfferFrom = new int[MAX_ITEMS + 1][BIDDERS];
        private final int[] buyers = new int[MAX_ITEMS];
        private int itemCount = 0;

        /** An offer is a bid that is as high as the loan of its lot; where there is none it is 0. */
        private void collectOffers(Shop shop) {
            itemCount = shop.itemCount;
            for (int i = 0; i < itemCount; i++) {
                Item item = shop.items[i];
                for (int bidder = 0; bidder < BIDDERS; bidder++) {
                    boolean isOffer = item.isLot && item.bids[bidder] >= item.loan;
                    offers[i][bidder] = isOffer ? item.bids[bidder] : 0;
                }
            }
        }

        int bestSum(Shop shop) {
            collectOffers(shop);
            Arrays.fill(bestFrom[itemCount], 0);
            for (int i = itemCount - 1; i >= 0; i--) {
                for (int bought = 0; bought < BIDDER_SETS; bought++) {
                    bestFrom[i][bought] = bestSumFrom(i, bought);
                }
            }
            return bestFrom[0][0];
        }

        private int bestSumFrom(int index, int bought) {
            int best = bestFrom[index + 1][bought];
            for (int bidder = 0; bidder < BIDDERS; bidder++) {
                if (offers[index][bidder] > 0 && (bought & 1 << bidder) == 0) {
                    int sum = offers[index][bidder] + bestFrom[index + 1][bought | 1 << bidder];
                    if (sum > best) {
                        best = sum;
                    }
                }
            }
            return best;
        }

        /** Chooses the buyer of every item in the best evening; returns what they pay together. */
        int plan(Shop shop) {
            int sum = bestSum(shop);
            int bought = 0;
            for (int i = 0; i < itemCount; i++) {
                buyers[i] = firstBestBuyer(i, bought);
                if (buyers[i] != NONE) {
                    bought |= 1 << buyers[i];
                }
            }
            return sum;
        }

        /** Of equal evenings the one that sells counts, and the lower bidder: so the first that fits. */
        private int firstBestBuyer(int index, int bought) {
            for (int bidder = 0; bidder < BIDDERS; bidder++) {
                if (offers[index][bidder] > 0 && (bought & 1 << bidder) == 0) {
                    int sum = offers[index][bidder] + bestFrom[index + 1][bought | 1 << bidder];
                    if (sum == bestFrom[index][bought]) {
                        return bidder;
                    }
                }
            }
            return NONE;
        }

        int buyerAt(int index) {
            return index < 0 || index >= itemCount ? NONE : buyers[index];
        }

        int bestSumByTrying(Shop shop) {
            collectOffers(shop);
            fillTopOffers();
            return tryFrom(this, 0, 0, 0, 0);
        }

        private void fillTopOffers() {
            Arrays.fill(topOfferFrom[itemCount], 0);
            for (int i = itemCount - 1; i >= 0; i--) {
                for (int bidder = 0; bidder < BIDDERS; bidder++) {
                    topOfferFrom[i][bidder] = Math.max(topOfferFrom[i + 1][bidder], offers[i][bidder]);
                }
            }
        }

        /** No evening brings more from an item on than the top offers of those who have not bought. */
        private int hopeFrom(int index, int bought) {
            int hope = 0;
            for (int bidder = 0; bidder < BIDDERS; bidder++) {
                if ((bought & 1 << bidder) == 0) {
                    hope += topOfferFrom[index][bidder];
                }
            }
            return hope;
        }

        /** The depth is the index, which ends at the number of items. */
        private static int tryFrom(Evening evening, int index, int bought, int paid, int best) {
            if (index >= evening.itemCount) {
                return Math.max(best, paid);
            }
            if (paid + evening.hopeFrom(index, bought) <= best) {
                return best;
            }
            int found = best;
            for (int bidder = 0; bidder < BIDDERS; bidder++) {
                int offer = evening.offers[index][bidder];
                if (offer > 0 && (bought & 1 << bidder) == 0) {
                    found = tryFrom(evening, index + 1, bought | 1 << bidder, paid + offer, found);
                }
            }
            return tryFrom(evening, index + 1, bought, paid, found);
        }
    }

    /** The states before the last modifications, in a ring with one place more for the state prepared. */
    private static final class History {
        private static final int PLACES = UNDO_LIMIT + 1;
        private final Shop[] states = new Shop[PLACES];
        private int next = 0;
        int kept = 0;

        History() {
            for (int i = 0; i < PLACES; i++) {
                states[i] = new Shop();
            }
        }

        /** Before a modification, which may still fail: what is prepared counts only when it is kept. */
        void prepare(Shop shop) {
            states[next].copyFrom(shop);
        }

        void keepPrepared() {
            next = (next + 1) % PLACES;
            kept = Math.min(kept + 1, UNDO_LIMIT);
        }

        void bringPreparedTo(Shop shop) {
            shop.copyFrom(states[next]);
        }

        void stepBack(Shop shop) {
            if (kept > 0) {
                next = (next + UNDO_LIMIT) % PLACES;
                kept--;
                shop.copyFrom(states[next]);
            }
        }

        void forget() {
            kept = 0;
        }
    }

    /** The commands with their forms, in which # stands for a digit and * for a number. */
    private enum Command {
        PLEDGE("pledge # * *"),
        REDEEM("redeem *"),
        EXTEND("extend * *"),
        DAYS("days *"),
        PRICE("price #"),
        RATE("rate # #"),
        BID("bid * # *"),
        SELL("sell *"),
        EVENING("evening");

        final String form;

        Command(String form) {
            this.form = form;
        }
    }

    /** The buffer, and the commands that were read from it. */
    private static final class Program {
        private static final Command[] KINDS = Command.values();
        /** With its separator a command takes seven characters at least: eight fit in, and a part of one. */
        private static final int MAX_COMMANDS = 9;
        private static final int MAX_NUMBERS = 3;
        private static final int DIGITS_OF_NUMBER = 3;

        private final char[] text = new char[BUFFER_LIMIT];
        int length = 0;
        final Command[] commands = new Command[MAX_COMMANDS];
        final int[][] numbers = new int[MAX_COMMANDS][MAX_NUMBERS];
        int commandCount = 0;
        int errorAt = 0;

        int add(char character) {
            if (length < BUFFER_LIMIT) {
                text[length] = character;
                length++;
            }
            return length;
        }

        void empty() {
            length = 0;
        }

        /** Returns whether the text is a program; if it is not, errorAt is where it goes wrong. */
        boolean parse() {
            commandCount = 0;
            int start = 0;
            for (int turn = 0; turn < MAX_COMMANDS; turn++) {
                int end = readCommand(start);
                if (end == NONE) {
                    return false;
                }
                if (end >= length) {
                    return true;
                }
                if (text[end] != ';') {
                    errorAt = end;
                    return false;
                }
                start = end + 1;
            }
            return false;
        }

        /** Returns where the command ends, or NONE; errorAt is then the furthest that any form came. */
        private int readCommand(int start) {
            errorAt = start;
            for (int i = 0; i < KINDS.length && commandCount < MAX_COMMANDS; i++) {
                int end = match(KINDS[i].form, start, numbers[commandCount]);
                if (end != NONE) {
                    commands[commandCount] = KINDS[i];
                    commandCount++;
                    return end;
                }
            }
            return NONE;
        }

        private int match(String form, int start, int[] found) {
            int at = start;
            int slot = 0;
            for (int i = 0; i < form.length(); i++) {
                int end = matchSign(form.charAt(i), at);
                if (end == at) {
                    errorAt = Math.max(errorAt, at);
                    return NONE;
                }
                if (isPlaceholder(form.charAt(i)) && slot < found.length) {
                    found[slot] = numberBetween(at, end);
                    slot++;
                }
                at = end;
            }
            return at;
        }

        private static boolean isPlaceholder(char sign) {
            return sign == '#' || sign == '*';
        }

        /** Returns the index behind what fits the sign of a form; the same index if nothing does. */
        private int matchSign(char sign, int at) {
            if (sign == '#') {
                return skipDigits(at, 1);
            }
            if (sign == '*') {
                return skipDigits(at, DIGITS_OF_NUMBER);
            }
            return at < length && text[at] == sign ? at + 1 : at;
        }

        private int skipDigits(int start, int most) {
            int at = start;
            while (at < length && at < start + most && text[at] >= '0' && text[at] <= '9') {
                at++;
            }
            return at;
        }

        private int numberBetween(int start, int end) {
            int value = 0;
            for (int i = start; i < end; i++) {
                value = value * 10 + (text[i] - '0');
            }
            return value;
        }
    }
}
