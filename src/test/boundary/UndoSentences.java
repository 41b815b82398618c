import java.util.ArrayDeque;
import java.util.Arrays;
import java.util.Deque;

/** Promises 51 to 53. */
final class UndoSentences extends Sentences {
    private static final String MODIFICATIONS = "The successful calls of pledge, redeem, extend, passDays, setPrice, setRate, "
            + "bid, sell, sellEvening and execute are modifications.";
    private static final String LAST_EIGHT = "The last 8 of them can be undone.";
    private static final String NOT_AFFECTED =
            "The buffer, the error position, the failed command and the slip are not affected by undo and restore";
    private static final String ALL_ELSE = "everything else is, including the ticket that is given next.";
    private static final String LEFT = "Returns the number of modifications that can still be undone.";

    UndoSentences(Suite suite) {
        super(suite);
    }

    @Override
    void all() {
        undoRefused();
        modifications();
        noModifications();
        lastEight();
        roundTheRing();
        notAffected();
        allElse();
        save();
        restoreRefused();
        restoreKeepsSnapshot();
        restoreAfterUndo();
        restoreForgetsUndos();
    }

    private void undoRefused() {
        test(51, "Throws `IllegalStateException` if there is none", t -> {
            t.refuses(STATE, "undo");
            t.refuses(ARGUMENT, "setPrice", 0);
            t.refuses(STATE, "undo");
            t.call("setPrice", 3);
            t.is(0, "undo");
            t.refuses(STATE, "undo");
            t.call("save");
            t.refuses(STATE, "undo");
            t.call("setPrice", 3);
            t.call("restore");
            t.refuses(STATE, "undo");
        });
    }

    private void modifications() {
        test(51, MODIFICATIONS, t -> {
            Object[][] modifications = {{"pledge", 0, 1, 1}, {"redeem", 2}, {"extend", 2, 9}, {"passDays", 1},
                {"setPrice", 2}, {"setPrice", 9}, {"setRate", 6, 1}, {"setRate", 0, 9}, {"bid", 0, 0, 50},
                {"bid", 0, 4, 999}, {"sell", 0}, {"sell", 1}, {"sellEvening"}};
            for (Object[] modification : modifications) {
                t.fresh();
                prepareWithoutUndos(t);
                String before = t.view();
                t.call((String) modification[0], Arrays.copyOfRange(modification, 1, modification.length));
                t.is(0, "undo");
                t.sees(before);
                t.refuses(STATE, "undo");
            }
        });
        test(51, MODIFICATIONS, t -> {
            prepareWithoutUndos(t);
            String before = t.view();
            t.program(8, "days 1;days 1;days 1;days 1;days 1;days 1;days 1;price 9");
            t.program(1, "days 1");
            t.is(1, "undo");
            t.is(0, "undo");
            t.sees(before);
            t.refuses(STATE, "undo");
        });
    }

    /** Two lots with bids and a pledge; nothing can be undone. */
    private void prepareWithoutUndos(Bench t) {
        t.lots(10, 20);
        t.call("pledge", 3, 30, 9);
        t.call("bid", 0, 0, 50);
        t.call("bid", 1, 0, 60);
        t.call("save");
        t.call("restore");
        t.refuses(STATE, "undo");
    }

    private void noModifications() {
        test(51, MODIFICATIONS, t -> {
            prepareWithoutUndos(t);
            t.refuses(ARGUMENT, "pledge", 6, 1, 1);
            t.refuses(ELEMENT, "redeem", 0);
            t.refuses(ARGUMENT, "extend", 2, 0);
            t.refuses(ARGUMENT, "passDays", 0);
            t.refuses(ARGUMENT, "setPrice", 0);
            t.refuses(ARGUMENT, "setRate", 7, 0);
            t.refuses(ARGUMENT, "bid", 0, 5, 1);
            t.refuses(ELEMENT, "sell", 2);
            t.failing("days 1;days 0", 1);
            t.malformed("days 1;", 7);
            t.refuses(STATE, "undo");
            t.call("save");
            t.call("writeSlip", 0);
            t.call("type", 'd');
            t.call("mostMinutes", 3, 100);
            t.call("mostMinutesByTable", 3, 100);
            t.call("bestEvening");
            t.call("bestEveningByTrying");
            t.call("eveningBuyerOf", 1);
            t.refuses(STATE, "undo");
        });
    }

    private void lastEight() {
        test(51, LAST_EIGHT, t -> {
            for (int i = 0; i < 8; i++) {
                t.call("passDays", 1);
            }
            dueUndosToDay(t, 0);
            t.fresh();
            for (int i = 0; i < 9; i++) {
                t.call("passDays", 1);
            }
            dueUndosToDay(t, 1);
            t.fresh();
            for (int i = 0; i < 40; i++) {
                t.call("passDays", 1);
            }
            dueUndosToDay(t, 32);
        });
        test(51, LEFT, t -> {
            t.call("passDays", 1);
            t.call("passDays", 1);
            t.is(1, "undo");
            t.call("passDays", 1);
            t.is(1, "undo");
            t.is(0, "undo");
            for (int i = 0; i < 8; i++) {
                t.call("passDays", 1);
            }
            t.is(7, "undo");
            t.call("passDays", 1);
            t.call("passDays", 1);
            t.is(7, "undo");
            t.refuses(ARGUMENT, "passDays", 0);
            t.is(6, "undo");
        });
    }

    private static void dueUndosToDay(Bench t, int day) {
        for (int left = 7; left >= 0; left--) {
            t.is(left, "undo");
            t.is(day + left, "day");
        }
        t.refuses(STATE, "undo");
        t.is(day, "day");
    }

    /** The states are kept in places that are used again: every number of undos meets every place. */
    private void roundTheRing() {
        test(51, LAST_EIGHT, t -> {
            Deque<String> before = new ArrayDeque<>();
            for (int undos = 1; undos <= 8; undos++) {
                for (int i = 0; i < 5; i++) {
                    before.addLast(t.view());
                    t.call("pledge", i, undos, 9);
                    before.addLast(t.view());
                    t.call("redeem", t.nextTicket() - 1);
                }
                for (int i = 1; i <= undos; i++) {
                    t.is(8 - i, "undo");
                    t.sees(before.removeLast());
                }
            }
        });
    }

    private void notAffected() {
        test(51, NOT_AFFECTED, t -> {
            prepareTexts(t);
            t.is(2, "undo");
            dueTexts(t);
        });
        test(53, NOT_AFFECTED, t -> {
            t.call("save");
            prepareTexts(t);
            t.is(0, "restore");
            t.is(0, "pledgeCount");
            dueTexts(t);
        });
    }

    private static void prepareTexts(Bench t) {
        t.call("pledge", 0, 5, 9);
        t.call("setPrice", 9);
        t.call("setPrice", 8);
        t.malformed("days 1;x", 7);
        t.failing("days 1;days 1;days 0", 2);
        t.call("writeSlip", 0);
        t.type("days ");
    }

    private static void dueTexts(Bench t) {
        t.is(7, "errorPosition");
        t.is(2, "failedCommand");
        t.hasSlip("#0 5min 10c by 9");
        t.is(6, "type", '1');
        t.is(1, "execute");
        t.is(1, "day");
    }

    private void allElse() {
        test(51, ALL_ELSE, t -> {
            t.is(0, "pledge", 0, 1, 9);
            t.is(1, "pledge", 0, 2, 9);
            t.call("undo");
            t.is(1, "pledge", 5, 3, 9);
            t.call("redeem", 1);
            t.is(2, "pledge", 5, 3, 9);
            t.call("undo");
            t.call("undo");
            t.call("undo");
            t.is(1, "pledge", 5, 3, 9);
            t.call("undo");
            t.call("undo");
            t.is(0, "pledge", 5, 3, 9);
        });
        test(53, ALL_ELSE, t -> {
            t.call("save");
            t.is(0, "pledge", 0, 1, 9);
            t.is(1, "pledge", 0, 2, 9);
            t.call("save");
            t.is(2, "pledge", 0, 2, 9);
            t.call("restore");
            t.is(2, "pledge", 5, 3, 9);
        });
    }

    private void save() {
        test(52, "Saves the state as a snapshot, which replaces an earlier one.", t -> {
            t.is(0, "save");
            t.call("passDays", 3);
            t.call("pledge", 0, 9, 9);
            t.is(3, "save");
            String saved = t.view();
            t.call("redeem", 0);
            t.call("passDays", 90);
            t.is(3, "restore");
            t.sees(saved);
        });
        test(52, "Returns the day.", t -> {
            t.is(0, "save");
            t.call("passDays", 1);
            t.is(1, "save");
            t.is(1, "save");
            t.call("undo");
            t.is(0, "save");
        });
    }

    private void restoreRefused() {
        test(53, "Throws `IllegalStateException` if there is no snapshot", t -> {
            t.refuses(STATE, "restore");
            t.call("pledge", 0, 1, 9);
            t.call("passDays", 2);
            t.refuses(STATE, "restore");
            t.is(1, "undo");
            t.refuses(STATE, "restore");
            t.call("save");
            t.is(0, "restore");
        });
    }

    private void restoreKeepsSnapshot() {
        test(53, "Restores the snapshot, which is kept.", t -> {
            t.call("save");
            String empty = t.view();
            t.pledges(10);
            t.call("passDays", 61);
            t.is(0, "restore");
            t.sees(empty);
            t.is(0, "pledge", 5, 240, 60);
            t.call("setRate", 3, 9);
            t.call("setPrice", 9);
            t.is(0, "restore");
            t.sees(empty);
            t.is(0, "restore");
            t.sees(empty);
        });
        test(53, "Restores the snapshot, which is kept.", t -> {
            t.lots(10, 20, 30);
            t.pledges(7);
            t.call("bid", 1, 0, 40);
            t.call("bid", 2, 4, 999);
            t.call("save");
            String full = t.view();
            for (int round = 0; round < 2; round++) {
                t.call("bid", 0, 3, 999);
                t.call("bid", 1, 0, 41);
                t.call("sell", 0);
                t.call("sellEvening");
                t.call("extend", 9, 1);
                t.call("redeem", 3);
                t.call("passDays", 61);
                t.is(2, "restore");
                t.sees(full);
                t.refuses(STATE, "pledge", 0, 1, 1);
            }
        });
    }

    private void restoreAfterUndo() {
        test(53, "Restores the snapshot, which is kept.", t -> {
            t.call("pledge", 0, 10, 9);
            t.call("passDays", 3);
            t.call("save");
            String saved = t.view();
            t.is(1, "undo");
            t.is(0, "undo");
            t.is(3, "restore");
            t.sees(saved);
            t.refuses(STATE, "undo");
        });
    }

    private void restoreForgetsUndos() {
        test(53, "Afterwards nothing can be undone.", t -> {
            for (int i = 0; i < 8; i++) {
                t.call("passDays", 1);
            }
            t.is(8, "save");
            t.is(8, "restore");
            t.refuses(STATE, "undo");
            t.call("passDays", 1);
            t.is(0, "undo");
            t.is(8, "day");
            t.refuses(STATE, "undo");
        });
        test(53, "Returns the day.", t -> {
            t.call("save");
            t.call("passDays", 90);
            t.is(0, "restore");
            t.is(0, "day");
            t.call("passDays", 90);
            t.call("save");
            t.is(90, "restore");
        });
    }
}
