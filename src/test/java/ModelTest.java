import java.util.ArrayDeque;
import java.util.ArrayList;
import java.util.Arrays;
import java.util.Comparator;
import java.util.Deque;
import java.util.List;
import java.util.NoSuchElementException;
import java.util.Random;
import java.util.regex.Matcher;
import java.util.regex.Pattern;

/** Random runs of up to 512 calls, each answer compared with that of a slow and plain model. */
public final class ModelTest {
    private static final int RUNS = 2500;
    private static final int CALLS = 512;

    // ---- the model

    static final class Thing {
        int ticket;
        int customer;
        int minutes;
        int loan;
        int first;
        int due;
        boolean lot;
        int[] bids = new int[5];

        Thing copy() {
            Thing t = new Thing();
            t.ticket = ticket;
            t.customer = customer;
            t.minutes = minutes;
            t.loan = loan;
            t.first = first;
            t.due = due;
            t.lot = lot;
            t.bids = bids.clone();
            return t;
        }
    }

    static final class State {
        int day = 0;
        int price = 2;
        int coins = 2000;
        int next = 0;
        int redeemed = 0;
        int forfeited = 0;
        int sold = 0;
        long pledged = 0;
        int[] rates = {1, 1, 1, 1, 1, 1, 1};
        List<Thing> things = new ArrayList<>();

        State copy() {
            State s = new State();
            s.day = day;
            s.price = price;
            s.coins = coins;
            s.next = next;
            s.redeemed = redeemed;
            s.forfeited = forfeited;
            s.sold = sold;
            s.pledged = pledged;
            s.rates = rates.clone();
            for (Thing t : things) {
                s.things.add(t.copy());
            }
            return s;
        }
    }

    static final class Model {
        private static final String COMMAND = "(?:pledge [0-9] [0-9]{1,3} [0-9]{1,3}|redeem [0-9]{1,3}"
                + "|extend [0-9]{1,3} [0-9]{1,3}|days [0-9]{1,3}|price [0-9]|rate [0-9] [0-9]"
                + "|bid [0-9]{1,3} [0-9] [0-9]{1,3}|sell [0-9]{1,3}|evening)";
        private static final Pattern PROGRAM = Pattern.compile(COMMAND + "(?:;" + COMMAND + ")*");

        State s = new State();
        State snapshot = null;
        Deque<State> undos = new ArrayDeque<>();
        String slip = "";
        String buffer = "";
        int error = -1;
        int failed = -1;

        Thing thing(int ticket) {
            for (Thing t : s.things) {
                if (t.ticket == ticket) {
                    return t;
                }
            }
            throw new NoSuchElementException();
        }

        Thing thing(int ticket, boolean lot) {
            Thing t = thing(ticket);
            if (t.lot != lot) {
                throw new NoSuchElementException();
            }
            return t;
        }

        List<Thing> all(boolean lot) {
            List<Thing> found = new ArrayList<>();
            for (Thing t : s.things) {
                if (t.lot == lot) {
                    found.add(t);
                }
            }
            return found;
        }

        static void range(int value, int low, int high) {
            if (value < low || value > high) {
                throw new IllegalArgumentException();
            }
        }

        int interest(Thing t, int days) {
            long sum = 0;
            for (int d = t.first; d < s.day + days; d++) {
                sum += s.rates[(d + 1) % 7];
            }
            return (int) (sum * t.loan / 100);
        }

        Object modify(String op, int[] a) {
            State before = s.copy();
            try {
                Object answer = change(op, a);
                undos.addLast(before);
                if (undos.size() > 8) {
                    undos.removeFirst();
                }
                return answer;
            } catch (RuntimeException e) {
                s = before;
                throw e;
            }
        }

        Object change(String op, int[] a) {
            switch (op) {
                case "pledge": return pledge(a[0], a[1], a[2]);
                case "redeem": {
                    Thing t = thing(a[0], false);
                    int debt = t.loan + interest(t, 0);
                    s.things.remove(t);
                    s.coins += debt;
                    s.redeemed += t.minutes;
                    return debt;
                }
                case "extend": {
                    Thing t = thing(a[0], false);
                    range(a[1], 1, 60);
                    int paid = interest(t, 0);
                    s.coins += paid;
                    t.first = s.day;
                    t.due = s.day + a[1];
                    return paid;
                }
                case "passDays": {
                    range(a[0], 1, 90);
                    int count = 0;
                    s.day += a[0];
                    for (Thing t : all(false)) {
                        if (t.due < s.day) {
                            t.lot = true;
                            s.forfeited += t.minutes;
                            count++;
                        }
                    }
                    return count;
                }
                case "setPrice": {
                    range(a[0], 1, 9);
                    int old = s.price;
                    s.price = a[0];
                    return old;
                }
                case "setRate": {
                    range(a[0], 0, 6);
                    range(a[1], 0, 9);
                    int old = s.rates[a[0]];
                    s.rates[a[0]] = a[1];
                    return old;
                }
                case "bid": {
                    Thing t = thing(a[0], true);
                    range(a[1], 0, 4);
                    range(a[2], 1, 999);
                    int old = t.bids[a[1]];
                    t.bids[a[1]] = a[2];
                    return old;
                }
                case "sell": {
                    Thing t = thing(a[0], true);
                    int buyer = buyer(t);
                    if (buyer < 0) {
                        throw new IllegalStateException();
                    }
                    int paid = secondPrice(t, buyer);
                    s.things.remove(t);
                    s.coins += paid;
                    s.sold += t.minutes;
                    return paid;
                }
                case "sellEvening": {
                    List<Thing> lots = all(true);
                    int[] buyers = bestBuyers(lots);
                    int sum = 0;
                    for (int i = 0; i < buyers.length; i++) {
                        if (buyers[i] < 5) {
                            sum += lots.get(i).bids[buyers[i]];
                            s.sold += lots.get(i).minutes;
                            s.things.remove(lots.get(i));
                        }
                    }
                    if (sum == 0) {
                        throw new IllegalStateException();
                    }
                    s.coins += sum;
                    return sum;
                }
                default: throw new AssertionError(op);
            }
        }

        int pledge(int customer, int minutes, int term) {
            range(customer, 0, 5);
            range(minutes, 1, 240);
            range(term, 1, 60);
            if (s.things.size() == 10) {
                throw new IllegalStateException();
            }
            if (s.coins < minutes * s.price) {
                throw new UnsupportedOperationException();
            }
            Thing t = new Thing();
            t.ticket = s.next++;
            t.customer = customer;
            t.minutes = minutes;
            t.loan = minutes * s.price;
            t.first = s.day;
            t.due = s.day + term;
            s.things.add(t);
            s.coins -= t.loan;
            s.pledged += minutes;
            return t.ticket;
        }

        static int buyer(Thing t) {
            int most = Arrays.stream(t.bids).max().getAsInt();
            for (int b = 0; b < 5; b++) {
                if (t.bids[b] == most && most >= t.loan) {
                    return b;
                }
            }
            return -1;
        }

        static int secondPrice(Thing t, int buyer) {
            int[] others = t.bids.clone();
            others[buyer] = t.loan;
            return Arrays.stream(others).max().getAsInt();
        }

        /** Buyer by lot, 5 for none. Tries all evenings, the better treated first, and keeps the first best. */
        static int[] bestBuyers(List<Thing> lots) {
            int[] best = new int[lots.size()];
            Arrays.fill(best, 5);
            int[] sum = {0};
            tryAll(lots, new int[lots.size()], 0, 0, best, sum);
            return best;
        }

        private static void tryAll(List<Thing> lots, int[] now, int i, int sum, int[] best, int[] bestSum) {
            if (i == lots.size()) {
                if (sum > bestSum[0]) {
                    bestSum[0] = sum;
                    System.arraycopy(now, 0, best, 0, now.length);
                }
                return;
            }
            Thing t = lots.get(i);
            for (int b = 0; b <= 5; b++) {
                boolean free = true;
                for (int j = 0; j < i; j++) {
                    free &= b == 5 || now[j] != b;
                }
                if (free && (b == 5 || t.bids[b] >= t.loan)) {
                    now[i] = b;
                    tryAll(lots, now, i + 1, sum + (b == 5 ? 0 : t.bids[b]), best, bestSum);
                }
            }
        }

        int bestSum() {
            List<Thing> lots = all(true);
            int[] buyers = bestBuyers(lots);
            int sum = 0;
            for (int i = 0; i < buyers.length; i++) {
                sum += buyers[i] == 5 ? 0 : lots.get(i).bids[buyers[i]];
            }
            return sum;
        }

        int most(List<Thing> things, int i, int coins) {
            if (i == things.size()) {
                return 0;
            }
            Thing t = things.get(i);
            int without = most(things, i + 1, coins);
            int debt = t.loan + interest(t, 0);
            return debt > coins ? without : Math.max(without, t.minutes + most(things, i + 1, coins - debt));
        }

        int mostMinutes(int customer, int coins) {
            range(customer, 0, 5);
            range(coins, 0, 9999);
            List<Thing> mine = all(false);
            mine.removeIf(t -> t.customer != customer);
            return most(mine, 0, coins);
        }

        int execute() {
            String text = buffer;
            buffer = "";
            if (!PROGRAM.matcher(text).matches()) {
                error = errorOf(text);
                throw new IllegalArgumentException();
            }
            State before = s.copy();
            String[] commands = text.split(";");
            for (int i = 0; i < commands.length; i++) {
                try {
                    runCommand(commands[i]);
                } catch (RuntimeException e) {
                    s = before;
                    failed = i;
                    throw new IllegalStateException();
                }
            }
            undos.addLast(before);
            if (undos.size() > 8) {
                undos.removeFirst();
            }
            return commands.length;
        }

        /** The longest start of the text that can still become a program ends where the error is. */
        static int errorOf(String text) {
            int good = 0;
            for (int end = 0; end <= text.length(); end++) {
                Matcher matcher = PROGRAM.matcher(text.substring(0, end));
                if (matcher.matches() || matcher.hitEnd()) {
                    good = end;
                }
            }
            return good;
        }

        void runCommand(String command) {
            String[] words = command.split(" ");
            int[] numbers = new int[words.length - 1];
            for (int i = 0; i < numbers.length; i++) {
                numbers[i] = Integer.parseInt(words[i + 1]);
            }
            String op = words[0];
            op = op.equals("days") ? "passDays" : op.equals("price") ? "setPrice" : op;
            op = op.equals("rate") ? "setRate" : op.equals("evening") ? "sellEvening" : op;
            change(op, numbers);
        }

        String slipOf(Thing t) {
            String text = "#" + t.ticket + " " + t.minutes + "min " + t.loan + "c";
            if (!t.lot) {
                return text + " by " + t.due + (t.due == s.day ? "?" : "");
            }
            text += " lot";
            for (int b = 0; b < 5; b++) {
                text += t.bids[b] == 0 ? "" : " " + b + ":" + t.bids[b];
            }
            return text;
        }

        Thing byDueDay(int place) {
            List<Thing> pledges = all(false);
            pledges.sort(Comparator.comparingInt((Thing t) -> t.due).thenComparingInt(t -> t.ticket));
            if (place < 0 || place >= pledges.size()) {
                throw new NoSuchElementException();
            }
            return pledges.get(place);
        }

        Object ask(String op, int[] a) {
            switch (op) {
                case "pledge": case "redeem": case "extend": case "passDays": case "setPrice":
                case "setRate": case "bid": case "sell": case "sellEvening":
                    return modify(op, a);
                case "day": return s.day;
                case "price": return s.price;
                case "rateOf": range(a[0], 0, 6); return s.rates[a[0]];
                case "coins": case "coinsByAccounts": return s.coins;
                case "pledgeCount": return all(false).size();
                case "lotCount": return all(true).size();
                case "pledgeAt": return at(all(false), a[0]).ticket;
                case "lotAt": return at(all(true), a[0]).ticket;
                case "customerOf": return thing(a[0], false).customer;
                case "minutesOf": return thing(a[0]).minutes;
                case "loanOf": return thing(a[0]).loan;
                case "dueDayOf": return thing(a[0], false).due;
                case "pledgeByDueDay": return byDueDay(a[0]).ticket;
                case "interestOf": case "interestByWeeks": return interest(thing(a[0], false), 0);
                case "debtAfter": {
                    Thing t = thing(a[0], false);
                    range(a[1], 0, 90);
                    return t.loan + interest(t, a[1]);
                }
                case "cheapestWeekday": {
                    int least = Arrays.stream(s.rates).min().getAsInt();
                    int d = s.day;
                    while (s.rates[d % 7] != least) {
                        d++;
                    }
                    return d % 7;
                }
                case "mostMinutes": case "mostMinutesByTable": return mostMinutes(a[0], a[1]);
                case "debtOf": {
                    range(a[0], 0, 5);
                    return all(false).stream().filter(t -> t.customer == a[0])
                            .mapToInt(t -> t.loan + interest(t, 0)).sum();
                }
                case "daysToForfeit": return byDueDay(0).due - s.day + 1;
                case "bidOf": {
                    Thing t = thing(a[0], true);
                    range(a[1], 0, 4);
                    return t.bids[a[1]];
                }
                case "buyerOf": case "priceOf": {
                    Thing t = thing(a[0], true);
                    int buyer = buyer(t);
                    if (buyer < 0) {
                        throw new NoSuchElementException();
                    }
                    return op.equals("buyerOf") ? buyer : secondPrice(t, buyer);
                }
                case "bestEvening": case "bestEveningByTrying": return bestSum();
                case "eveningBuyerOf": {
                    List<Thing> lots = all(true);
                    int buyer = bestBuyers(lots)[lots.indexOf(thing(a[0], true))];
                    if (buyer == 5) {
                        throw new NoSuchElementException();
                    }
                    return buyer;
                }
                case "redeemedMinutes": return s.redeemed;
                case "forfeitedMinutes": return s.forfeited;
                case "soldMinutes": return s.sold;
                case "pledgedMinutes": return s.pledged;
                case "meanLoan": {
                    double sum = 0;
                    for (Thing t : all(false)) {
                        sum += t.loan;
                    }
                    if (all(false).isEmpty()) {
                        throw new ArithmeticException();
                    }
                    return sum / all(false).size();
                }
                case "isConsistent": return true;
                case "writeSlip": slip = slipOf(thing(a[0])); return slip.length();
                case "slipAt":
                    if (a[0] < 0 || a[0] >= slip.length()) {
                        throw new IndexOutOfBoundsException();
                    }
                    return slip.charAt(a[0]);
                case "type":
                    range(a[0], 32, 126);
                    if (buffer.length() == 60) {
                        throw new IllegalStateException();
                    }
                    buffer += (char) a[0];
                    return buffer.length();
                case "execute": return execute();
                case "errorPosition": return stored(error);
                case "failedCommand": return stored(failed);
                case "undo":
                    if (undos.isEmpty()) {
                        throw new IllegalStateException();
                    }
                    s = undos.removeLast();
                    return undos.size();
                case "save": snapshot = s.copy(); return s.day;
                case "restore":
                    if (snapshot == null) {
                        throw new IllegalStateException();
                    }
                    s = snapshot.copy();
                    undos.clear();
                    return s.day;
                default: throw new AssertionError(op);
            }
        }

        static Thing at(List<Thing> things, int position) {
            if (position < 0 || position >= things.size()) {
                throw new IndexOutOfBoundsException();
            }
            return things.get(position);
        }

        static int stored(int value) {
            if (value < 0) {
                throw new NoSuchElementException();
            }
            return value;
        }
    }

    // ---- the class under test

    static Object real(MinutePawnshop x, String op, int[] a) {
        switch (op) {
            case "pledge": return x.pledge(a[0], a[1], a[2]);
            case "redeem": return x.redeem(a[0]);
            case "extend": return x.extend(a[0], a[1]);
            case "passDays": return x.passDays(a[0]);
            case "setPrice": return x.setPrice(a[0]);
            case "setRate": return x.setRate(a[0], a[1]);
            case "day": return x.day();
            case "price": return x.price();
            case "rateOf": return x.rateOf(a[0]);
            case "coins": return x.coins();
            case "coinsByAccounts": return x.coinsByAccounts();
            case "pledgeCount": return x.pledgeCount();
            case "pledgeAt": return x.pledgeAt(a[0]);
            case "customerOf": return x.customerOf(a[0]);
            case "minutesOf": return x.minutesOf(a[0]);
            case "loanOf": return x.loanOf(a[0]);
            case "dueDayOf": return x.dueDayOf(a[0]);
            case "pledgeByDueDay": return x.pledgeByDueDay(a[0]);
            case "interestOf": return x.interestOf(a[0]);
            case "interestByWeeks": return x.interestByWeeks(a[0]);
            case "debtAfter": return x.debtAfter(a[0], a[1]);
            case "cheapestWeekday": return x.cheapestWeekday();
            case "mostMinutes": return x.mostMinutes(a[0], a[1]);
            case "mostMinutesByTable": return x.mostMinutesByTable(a[0], a[1]);
            case "debtOf": return x.debtOf(a[0]);
            case "daysToForfeit": return x.daysToForfeit();
            case "bid": return x.bid(a[0], a[1], a[2]);
            case "sell": return x.sell(a[0]);
            case "sellEvening": return x.sellEvening();
            case "lotCount": return x.lotCount();
            case "lotAt": return x.lotAt(a[0]);
            case "bidOf": return x.bidOf(a[0], a[1]);
            case "buyerOf": return x.buyerOf(a[0]);
            case "priceOf": return x.priceOf(a[0]);
            case "bestEvening": return x.bestEvening();
            case "bestEveningByTrying": return x.bestEveningByTrying();
            case "eveningBuyerOf": return x.eveningBuyerOf(a[0]);
            case "redeemedMinutes": return x.redeemedMinutes();
            case "forfeitedMinutes": return x.forfeitedMinutes();
            case "soldMinutes": return x.soldMinutes();
            case "pledgedMinutes": return x.pledgedMinutes();
            case "meanLoan": return x.meanLoan();
            case "isConsistent": return x.isConsistent();
            case "writeSlip": return x.writeSlip(a[0]);
            case "slipAt": return x.slipAt(a[0]);
            case "type": return x.type((char) a[0]);
            case "execute": return x.execute();
            case "errorPosition": return x.errorPosition();
            case "failedCommand": return x.failedCommand();
            case "undo": return x.undo();
            case "save": return x.save();
            case "restore": return x.restore();
            default: throw new AssertionError(op);
        }
    }

    // ---- random runs

    private static final String[] MODIFICATIONS = {
        "pledge", "pledge", "pledge", "pledge", "redeem", "extend", "passDays", "setPrice", "setRate",
        "bid", "bid", "bid", "bid", "bid", "sell", "sellEvening",
    };
    private static final String[] QUERIES = {
        "day", "price", "rateOf", "coins", "coinsByAccounts", "pledgeCount", "pledgeAt", "customerOf",
        "minutesOf", "loanOf", "dueDayOf", "pledgeByDueDay", "interestOf", "interestByWeeks", "debtAfter",
        "cheapestWeekday", "mostMinutes", "mostMinutesByTable", "debtOf", "daysToForfeit", "lotCount",
        "lotAt", "bidOf", "buyerOf", "priceOf", "bestEvening", "bestEveningByTrying", "eveningBuyerOf",
        "redeemedMinutes", "forfeitedMinutes", "soldMinutes", "pledgedMinutes", "meanLoan", "isConsistent",
        "writeSlip", "slipAt", "errorPosition", "failedCommand",
    };
    private static final String[] FORMS = {
        "pledge c m t", "pledge c m t", "redeem t", "extend t n", "days s", "price p", "rate w r",
        "bid t b n", "bid t b n", "sell t", "evening",
    };
    private static final int[] ODD = {-1, 0, 1, 10, 60, 61, 90, 91, 240, 241, 999, 1000, 9999, 10000,
        Integer.MAX_VALUE, Integer.MIN_VALUE};

    private final Random random;
    private final int run;
    private final MinutePawnshop x = new MinutePawnshop();
    private final Model model = new Model();
    private final boolean slow;
    private int calls = 0;
    private boolean wrong = false;

    private ModelTest(int run) {
        this.run = run;
        random = new Random(run);
        slow = run / 2 % 2 == 0;
    }

    private int pick(int low, int high) {
        return low + random.nextInt(high - low + 1);
    }

    private int ticket() {
        if (model.s.things.isEmpty() || pick(0, 15) == 0) {
            return pick(-1, model.s.next);
        }
        return model.s.things.get(random.nextInt(model.s.things.size())).ticket;
    }

    private int lot() {
        List<Thing> lots = model.all(true);
        return lots.isEmpty() || pick(0, 15) == 0 ? ticket() : lots.get(random.nextInt(lots.size())).ticket;
    }

    /** Mostly near the loan of some lot, so that many evenings are equal. */
    private int coinsOfBid() {
        List<Thing> lots = model.all(true);
        if (lots.isEmpty() || pick(0, 4) == 0) {
            return pick(1, 999);
        }
        return Math.min(999, lots.get(random.nextInt(lots.size())).loan + pick(-1, 3));
    }

    private int[] arguments(String op) {
        int[] a = plainArguments(op);
        if (a.length > 0 && pick(0, 19) == 0) {
            a[random.nextInt(a.length)] = ODD[random.nextInt(ODD.length)];
        }
        return a;
    }

    private int[] plainArguments(String op) {
        switch (op) {
            case "pledge": return new int[] {pick(0, slow ? 1 : 5), slow ? pick(1, 40) : pick(1, 240), pick(1, slow ? 9 : 60)};
            case "extend": return new int[] {ticket(), pick(1, 60)};
            case "passDays": return new int[] {pick(0, 5) == 0 ? pick(1, 90) : pick(1, 6)};
            case "setPrice": return new int[] {pick(1, slow ? 2 : 9)};
            case "setRate": return new int[] {pick(0, 6), pick(0, 9)};
            case "rateOf": return new int[] {pick(0, 6)};
            case "debtAfter": return new int[] {ticket(), pick(0, 90)};
            case "mostMinutes": case "mostMinutesByTable": return new int[] {pick(0, slow ? 1 : 5), pick(0, 2000)};
            case "debtOf": return new int[] {pick(0, 5)};
            case "bid": return new int[] {lot(), pick(0, 4), coinsOfBid()};
            case "bidOf": return new int[] {lot(), pick(0, 4)};
            case "sell": case "buyerOf": case "priceOf": case "eveningBuyerOf": return new int[] {lot()};
            case "pledgeAt": case "lotAt": case "pledgeByDueDay": return new int[] {pick(-1, 10)};
            case "slipAt": return new int[] {pick(-1, Math.max(1, model.slip.length()))};
            case "redeem": case "customerOf": case "minutesOf": case "loanOf": case "dueDayOf":
            case "interestOf": case "interestByWeeks": case "writeSlip": return new int[] {ticket()};
            default: return new int[0];
        }
    }

    private String command() {
        StringBuilder text = new StringBuilder();
        String[] words = FORMS[random.nextInt(FORMS.length)].split(" ");
        text.append(words[0]);
        for (int i = 1; i < words.length; i++) {
            text.append(' ');
            switch (words[i]) {
                case "c": text.append(pick(0, 5)); break;
                case "m": text.append(pick(1, 60)); break;
                case "t": text.append(i == 1 ? Math.max(0, words[0].equals("redeem") || words[0].equals("extend") ? ticket() : lot()) : pick(1, 60)); break;
                case "s": text.append(pick(1, 9)); break;
                case "p": text.append(pick(0, 9)); break;
                case "w": text.append(pick(0, 7)); break;
                case "r": text.append(pick(0, 9)); break;
                case "b": text.append(pick(0, 5)); break;
                default: text.append(pick(0, 2) == 0 ? "0" + pick(1, 60) : "" + pick(1, 120)); break;
            }
        }
        return text.toString();
    }

    private String program() {
        StringBuilder text = new StringBuilder(command());
        int longest = pick(0, 9) == 0 ? 70 : 45;
        while ((longest == 70 || pick(0, 1) == 0) && text.length() < longest) {
            text.append(';').append(command());
        }
        if (pick(0, 3) == 0) {
            int at = random.nextInt(text.length());
            char c = "0123456789 ;pledgrmxtnasycivbP#*~".charAt(random.nextInt(33));
            switch (pick(0, 2)) {
                case 0: text.insert(at, c); break;
                case 1: text.setCharAt(at, c); break;
                default: text.setLength(at); break;
            }
        }
        return text.toString();
    }

    private static Object answer(boolean real, ModelTest test, String op, int[] a) {
        try {
            return real ? real(test.x, op, a) : test.model.ask(op, a);
        } catch (RuntimeException e) {
            return "throws " + e.getClass().getSimpleName();
        }
    }

    private void compare(String op, int... a) {
        calls++;
        Object due = answer(false, this, op, a.clone());
        Object got = answer(true, this, op, a.clone());
        if (!due.equals(got)) {
            wrong = true;
            System.out.println("run " + run + ", call " + calls + ": " + op + Arrays.toString(a)
                    + " answered " + got + ", due is " + due);
        }
    }

    private void typeProgram() {
        String text = program();
        for (int i = 0; i < text.length() && calls < CALLS; i++) {
            compare("type", text.charAt(i));
        }
        compare("execute");
        compare("errorPosition");
        compare("failedCommand");
    }

    private void step() {
        int kind = pick(0, 99);
        if (kind < 40) {
            String op = MODIFICATIONS[random.nextInt(MODIFICATIONS.length)];
            compare(op, arguments(op));
        } else if (kind < 88) {
            String op = QUERIES[random.nextInt(QUERIES.length)];
            compare(op, arguments(op));
        } else if (kind < 93) {
            compare("undo");
        } else if (kind < 95) {
            compare(pick(0, 1) == 0 ? "save" : "restore");
        } else if (kind < 98) {
            typeProgram();
        } else {
            compare("type", pick(0, 1) == 0 ? pick(0, 200) : 'd');
        }
    }

    /** Looks at every answer that takes one ticket or place, and at those that take nothing. */
    private void lookAtAll() {
        for (String op : QUERIES) {
            if (plainArguments(op).length == 0) {
                compare(op);
            } else if (plainArguments(op).length == 1) {
                for (Thing t : new ArrayList<>(model.s.things)) {
                    compare(op, t.ticket);
                }
                for (int place = -1; place <= 10; place++) {
                    compare(op, place);
                }
            }
        }
    }

    public static void main(String[] args) {
        int wrongRuns = 0;
        for (int run = 1; run <= RUNS && wrongRuns < 5; run++) {
            ModelTest test = new ModelTest(run);
            int end = run % 2 == 0 ? CALLS : test.pick(20, 200);
            while (test.calls < end && !test.wrong) {
                test.step();
            }
            if (test.calls < 200 && !test.wrong) {
                test.lookAtAll();
            }
            wrongRuns += test.wrong ? 1 : 0;
        }
        System.out.println(wrongRuns == 0 ? "all runs answer as the model does" : "some runs differ from the model");
        if (wrongRuns != 0) {
            System.exit(1);
        }
    }
}
