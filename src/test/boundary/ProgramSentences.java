/** Promises 45 to 50. */
final class ProgramSentences extends Sentences {
    private static final String NUMBER = "number  = one to three digits";
    private static final String REPETITIONS = "with braces for zero or more repetitions";
    private static final String POSITION = "The error position of a malformed program is the index of the first character "
            + "that cannot continue any program, or the length of the text if it ends too early.";
    private static final String CALLED = "The commands call pledge with the customer, the minutes and the term, redeem, extend, "
            + "passDays, setPrice, setRate, bid with the lot, the bidder and the coins, sell, and sellEvening.";
    private static final String FAILS =
            "Throws `IllegalStateException` if the method of a command throws an exception; the index of the command is stored";
    private static final String NOTHING_CHANGES =
            "A method that throws an exception changes nothing, except that execute empties the buffer.";
    /** One of each; no start of one is a program. */
    private static final String[] COMMANDS = {"pledge 0 1 2", "redeem 1", "extend 1 2", "days 1", "price 1", "rate 1 2",
        "bid 1 2 3", "sell 1", "evening"};
    private static final String SEVEN_DAYS = "days 1;days 1;days 1;days 1;days 1;days 1;days 1;";

    ProgramSentences(Suite suite) {
        super(suite);
    }

    @Override
    void all() {
        slip();
        slipRefused();
        slipAt();
        type();
        fullBuffer();
        numbers();
        digits();
        repetitions();
        commandsOfPledges();
        otherCommands();
        failingCommands();
        allOrNone();
        emptiedBuffer();
        tooEarly();
        wrongCharacter();
        malformed();
        errorPosition();
        failedCommand();
    }

    private void slip() {
        test(45, "for a pledge a blank, \"by \", the due day, and \"?\" if this is the present day", t -> {
            t.call("pledge", 0, 1, 2);
            t.is(15, "writeSlip", 0);
            t.hasSlip("#0 1min 2c by 2");
            t.call("passDays", 1);
            t.is(15, "writeSlip", 0);
            t.call("passDays", 1);
            t.is(16, "writeSlip", 0);
            t.hasSlip("#0 1min 2c by 2?");
            t.call("extend", 0, 1);
            t.is(15, "writeSlip", 0);
            t.hasSlip("#0 1min 2c by 3");
        });
        test(45, "for each bid in the order of bidders a blank, the bidder, \":\" and the bid", t -> {
            t.call("setPrice", 8);
            t.lots(240);
            t.is(19, "writeSlip", 0);
            t.hasSlip("#0 240min 1920c lot");
            for (int bidder = 4; bidder >= 0; bidder--) {
                t.call("bid", 0, bidder, bidder == 2 ? 1 : 999);
            }
            t.call("writeSlip", 0);
            t.hasSlip("#0 240min 1920c lot 0:999 1:999 2:1 3:999 4:999");
        });
        test(45, "Writes the slip of a pledge or a lot, in place of the slip before", t -> {
            t.lots(10);
            t.call("pledge", 0, 240, 60);
            t.is(20, "writeSlip", 1);
            t.hasSlip("#1 240min 480c by 62");
            t.call("writeSlip", 0);
            t.hasSlip("#0 10min 20c lot");
            t.refuses(INDEX, "slipAt", 16);
        });
    }

    private void slipRefused() {
        test(45, "Throws `NoSuchElementException` if there is no such pledge or lot", t -> {
            t.refuses(ELEMENT, "writeSlip", 0);
            t.lots(10, 10);
            t.call("pledge", 0, 10, 60);
            t.call("bid", 0, 0, 20);
            t.call("sell", 0);
            t.call("redeem", 2);
            t.call("writeSlip", 1);
            for (int ticket : new int[] {MIN, -1, 0, 2, 3, MAX}) {
                t.refuses(ELEMENT, "writeSlip", ticket);
            }
            t.hasSlip("#1 10min 20c lot");
        });
    }

    private void slipAt() {
        test(46, "Returns a character of the slip, which is empty at first.", t -> {
            t.refuses(INDEX, "slipAt", 0);
            t.call("pledge", 0, 5, 9);
            t.refuses(INDEX, "slipAt", 0);
        });
        test(46, "- `index`: index of the character, from 0", t -> {
            t.call("pledge", 0, 5, 9);
            t.is(16, "writeSlip", 0);
            t.refuses(INDEX, "slipAt", -1);
            t.is('#', "slipAt", 0);
            t.is('0', "slipAt", 1);
            t.is('9', "slipAt", 15);
            t.refuses(INDEX, "slipAt", 16);
        });
        test(46, "Throws `IndexOutOfBoundsException` if there is no such character", t -> {
            t.call("pledge", 0, 5, 9);
            t.call("writeSlip", 0);
            for (int index : new int[] {MIN, -1, 16, 17, MAX}) {
                t.refuses(INDEX, "slipAt", index);
            }
        });
    }

    private void type() {
        test(47, "Throws `IllegalArgumentException` if the character is not from 32 to 126", t -> {
            for (int character : new int[] {0, 9, 10, 31, 127, 128, 256 + 32, 65535}) {
                t.refuses(ARGUMENT, "type", (char) character);
            }
            t.is(1, "type", (char) 32);
            t.is(2, "type", (char) 126);
            t.refuses(ARGUMENT, "type", (char) 31);
            t.is(3, "type", ';');
        });
        test(47, "Throws `IllegalStateException` if the buffer contains 60 characters", t -> {
            for (int length = 1; length <= 60; length++) {
                t.is(length, "type", 'a');
            }
            t.refuses(STATE, "type", 'a');
            t.refuses(STATE, "type", (char) 32);
            t.refuses(STATE, "type", (char) 126);
            t.is(ARGUMENT, "execute");
            t.is(1, "type", 'a');
        });
        test(47, SEVERAL, t -> {
            t.type("x".repeat(60));
            t.refuses(ARGUMENT, "type", (char) 31);
            t.refuses(ARGUMENT, "type", (char) 127);
        });
    }

    private void fullBuffer() {
        test(48, "Characters are collected in a buffer of at most 60 characters.", t -> {
            t.type("pledge 0 240 60;pledge 1 240 60;pledge 2 240 60;extend 0 01");
            t.is(60, "type", '0');
            t.refuses(STATE, "type", '0');
            t.is(4, "execute");
            t.is(10, "dueDayOf", 0);
            t.is(60, "dueDayOf", 2);
            t.malformed(SEVEN_DAYS + "days 1;sell", 60);
            t.malformed(SEVEN_DAYS + "days 1;sel!", 59);
            t.malformed(SEVEN_DAYS + "days 1;day0", 59);
        });
    }

    private void numbers() {
        test(48, NUMBER, t -> {
            t.program(3, "days 1;days 01;days 001");
            t.is(3, "day");
            t.program(3, "days 9;days 90;days 090");
            t.is(192, "day");
            t.program(1, "pledge 0 001 060");
            t.is(1, "minutesOf", 0);
            t.is(252, "dueDayOf", 0);
            t.program(2, "extend 000 002;redeem 00");
            t.failing("days 000", 0);
            t.failing("days 999", 0);
        });
        test(49, NUMBER, t -> {
            String[] tooLong = {"pledge 0 1234 1", "pledge 0 1 1234", "redeem 1234", "extend 1234 1", "extend 1 1234",
                "days 1234", "bid 1234 1 1", "bid 1 1 1234", "sell 1234"};
            for (String text : tooLong) {
                t.fresh();
                t.malformed(text, text.indexOf("1234") + 3);
            }
            String[] without = {"pledge 0 # 1", "pledge 0 1 #", "redeem #", "extend # 1", "extend 1 #", "days #",
                "bid # 1 1", "bid 1 1 #", "sell #"};
            for (String text : without) {
                t.fresh();
                t.malformed(text, text.indexOf('#'));
                t.malformed(text.replace("#", ""), text.indexOf('#'));
            }
        });
        test(49, NUMBER, t -> {
            t.malformed("days /", 5);
            t.malformed("days :", 5);
            t.malformed("days 9/", 6);
            t.malformed("days 0:", 6);
            t.malformed("days -1", 5);
            t.malformed("days +1", 5);
        });
    }

    private void digits() {
        test(49, "\"price \" digit", t -> {
            String[] tooLong = {"pledge 10 1 1", "price 10", "rate 10 1", "rate 1 10", "bid 1 10 1"};
            for (String text : tooLong) {
                t.fresh();
                t.malformed(text, text.indexOf("10") + 1);
            }
            String[] without = {"pledge # 1 1", "price #", "rate # 1", "rate 1 #", "bid 1 # 1"};
            for (String text : without) {
                t.fresh();
                t.malformed(text, text.indexOf('#'));
                t.malformed(text.replace("#", "/"), text.indexOf('#'));
                t.malformed(text.replace("#", ":"), text.indexOf('#'));
                t.malformed(text.replace("#", ""), text.indexOf('#'));
            }
        });
        test(48, "\"price \" digit", t -> {
            t.program(2, "price 1;price 9");
            t.is(9, "price");
            t.failing("price 0", 0);
            t.program(4, "rate 0 0;rate 6 9;rate 0 9;rate 6 0");
            t.is(9, "rateOf", 0);
            t.is(0, "rateOf", 6);
        });
    }

    private void repetitions() {
        test(48, REPETITIONS, t -> {
            t.program(1, "days 1");
            t.program(2, "days 1;days 1");
            t.program(8, SEVEN_DAYS + "days 1");
            t.is(11, "day");
        });
        test(48, "Returns the number of commands.", t -> {
            t.program(1, "price 9");
            t.program(8, "days 9;days 9;days 9;days 9;days 9;days 9;days 9;price 1");
            t.is(1, "price");
        });
        test(49, REPETITIONS, t -> {
            t.malformed(";", 0);
            t.malformed(";days 1", 0);
            t.malformed("days 1;", 7);
            t.malformed("days 1;;days 1", 7);
            t.malformed("days 1; days 1", 7);
            t.malformed("days 1 ;days 1", 6);
            t.malformed("days 1,days 1", 6);
            t.malformed("days 1days 1", 6);
            t.malformed(SEVEN_DAYS + "days 1;", 56);
        });
    }

    private void commandsOfPledges() {
        test(48, CALLED, t -> {
            t.failing("pledge 6 1 1", 0);
            t.failing("pledge 0 0 1", 0);
            t.failing("pledge 0 241 1", 0);
            t.failing("pledge 0 1 0", 0);
            t.failing("pledge 0 1 61", 0);
            t.program(2, "pledge 0 1 1;pledge 5 240 60");
            t.sees("0 2 1518 1518 0 0 0 241; 1 1 1 1 1 1 1; 0 0 1 2 1 0; 1 5 240 480 60 0");
        });
        test(48, CALLED, t -> {
            t.call("pledge", 0, 50, 9);
            t.call("passDays", 1);
            t.failing("redeem 1", 0);
            t.failing("extend 1 1", 0);
            t.failing("extend 0 0", 0);
            t.failing("extend 0 61", 0);
            t.program(1, "extend 0 60");
            t.is(61, "dueDayOf", 0);
            t.program(1, "extend 0 1");
            t.is(2, "dueDayOf", 0);
            t.program(1, "redeem 0");
            t.is(2001, "coins");
        });
        test(48, CALLED, t -> {
            t.failing("days 0", 0);
            t.failing("days 91", 0);
            t.program(2, "days 90;days 1");
            t.is(91, "day");
        });
    }

    private void otherCommands() {
        test(48, CALLED, t -> {
            t.failing("price 0", 0);
            t.failing("rate 7 1", 0);
            t.failing("rate 9 9", 0);
            t.program(4, "price 9;price 1;rate 0 0;rate 6 9");
            t.is(1, "price");
            t.is(0, "rateOf", 0);
            t.is(9, "rateOf", 6);
        });
        test(48, CALLED, t -> {
            t.lots(10, 10);
            t.failing("bid 2 0 1", 0);
            t.failing("bid 0 5 1", 0);
            t.failing("bid 0 0 0", 0);
            t.failing("sell 0", 0);
            t.failing("sell 2", 0);
            t.failing("evening", 0);
            t.program(4, "bid 0 0 1;bid 0 4 999;bid 1 4 20;sell 0");
            t.is(1980, "coins");
            t.program(1, "evening");
            t.is(2000, "coins");
            t.failing("evening", 0);
        });
    }

    private void failingCommands() {
        test(48, FAILS, t -> {
            t.failing("days 0", 0);
            t.failing("redeem 0", 0);
            t.failing("evening", 0);
            t.call("setPrice", 9);
            t.failing("pledge 0 240 1", 0);
            t.pledges(10);
            t.failing("pledge 0 1 1", 0);
        });
        test(48, FAILS, t -> {
            t.failing("days 0;days 0", 0);
            t.failing("days 1;days 0;days 0", 1);
            t.failing(SEVEN_DAYS + "days 0", 7);
            t.failing("pledge 0 1 1;days 1;days 1;redeem 0", 3);
            t.failing("pledge 0 1 1;redeem 0;redeem 0", 2);
        });
    }

    private void allOrNone() {
        test(48, "Executes the program in the buffer, all commands of it or none, and empties the buffer.", t -> {
            t.call("pledge", 0, 50, 9);
            t.call("passDays", 3);
            t.call("writeSlip", 0);
            t.call("save");
            t.failing("pledge 1 10 5;extend 0 60;price 9;rate 0 9;redeem 9", 4);
            t.failing("redeem 0;pledge 1 10 5;days 90;bid 1 4 50;sell 1;sell 1", 5);
            t.failing("days 90;bid 0 1 200;evening;evening", 3);
            t.is(1, "pledge", 0, 1, 1);
            t.is(2, "undo");
        });
        test(48, NOTHING_CHANGES, t -> {
            t.pledges(10);
            t.failing("redeem 4;redeem 0;pledge 5 9 9;pledge 5 9 9;pledge 5 9 9", 4);
            t.program(4, "redeem 4;redeem 0;pledge 5 9 9;pledge 5 9 9");
            t.refuses(STATE, "pledge", 0, 1, 1);
            t.malformed("redeem 1;redeem 2;redeem", 24);
            t.is(10, "pledgeCount");
        });
    }

    private void emptiedBuffer() {
        test(48, "Executes the program in the buffer, all commands of it or none, and empties the buffer.", t -> {
            t.program(1, "days 1");
            t.is(1, "type", 'd');
            t.is(ARGUMENT, "execute");
            t.is(1, "errorPosition");
            t.is(1, "type", 'd');
            t.type("ays 0");
            t.is(STATE, "execute");
            t.is(1, "errorPosition");
            t.is(ARGUMENT, "execute");
            t.is(0, "errorPosition");
            t.is(1, "type", 'd');
            t.is(1, "day");
        });
    }

    private void tooEarly() {
        test(49, POSITION, t -> {
            t.malformed("", 0);
            for (String command : COMMANDS) {
                for (int end = 1; end < command.length(); end++) {
                    t.fresh();
                    t.malformed(command.substring(0, end), end);
                    t.malformed("days 9;" + command.substring(0, end), end + 7);
                }
                t.malformed(command + ";", command.length() + 1);
            }
        });
    }

    private void wrongCharacter() {
        test(49, POSITION, t -> {
            for (String command : COMMANDS) {
                for (int end = 0; end <= command.length(); end++) {
                    t.fresh();
                    t.malformed(command.substring(0, end) + "!", end);
                    t.malformed(command.substring(0, end) + "~" + command.substring(end), end);
                }
                t.malformed(" " + command, 0);
                t.malformed(command + " ", command.length());
                t.malformed(command.toUpperCase(), 0);
            }
        });
        test(49, POSITION, t -> {
            t.malformed("px", 1);
            t.malformed("plx", 2);
            t.malformed("prx", 2);
            t.malformed("rx", 1);
            t.malformed("rex", 2);
            t.malformed("rax", 2);
            t.malformed("ex", 2);
            t.malformed("exx", 2);
            t.malformed("evx", 2);
            t.malformed("ra 1", 2);
            t.malformed("pledge  0 1 2", 7);
            t.malformed("evening 1", 7);
            t.malformed("price 1;pled ge", 12);
        });
    }

    private void malformed() {
        test(48, "Throws `IllegalArgumentException` if the program is malformed; its error position is stored", t -> {
            t.refuses(ELEMENT, "errorPosition");
            t.malformed("", 0);
            t.malformed(" ", 0);
            t.malformed("days 1;days", 11);
            t.malformed("days 0;days", 11);
            t.is(0, "day");
            t.refuses(ELEMENT, "failedCommand");
        });
    }

    private void errorPosition() {
        test(49, "Throws `NoSuchElementException` if no program was malformed so far", t -> {
            t.refuses(ELEMENT, "errorPosition");
            t.program(1, "days 1");
            t.refuses(ELEMENT, "errorPosition");
            t.failing("days 0", 0);
            t.refuses(ELEMENT, "errorPosition");
            t.type("x");
            t.refuses(ELEMENT, "errorPosition");
            t.is(ARGUMENT, "execute");
            t.is(0, "errorPosition");
        });
        test(49, "Returns the error position of the last malformed program.", t -> {
            t.malformed("days 1;", 7);
            t.malformed("", 0);
            t.malformed("days", 4);
            t.program(1, "days 1");
            t.is(4, "errorPosition");
            t.failing("days 0", 0);
            t.is(4, "errorPosition");
        });
    }

    private void failedCommand() {
        test(50, "Throws `NoSuchElementException` if no command failed so far", t -> {
            t.refuses(ELEMENT, "failedCommand");
            t.program(1, "days 1");
            t.refuses(ELEMENT, "failedCommand");
            t.malformed("days 0;", 7);
            t.refuses(ELEMENT, "failedCommand");
            t.refuses(ARGUMENT, "passDays", 0);
            t.refuses(ELEMENT, "failedCommand");
            t.type("days 0");
            t.refuses(ELEMENT, "failedCommand");
            t.is(STATE, "execute");
            t.is(0, "failedCommand");
        });
        test(50, "Returns the index in its program, from 0.", t -> {
            t.failing("days 0", 0);
            t.failing(SEVEN_DAYS + "days 0", 7);
            t.failing("days 1;days 0", 1);
            t.failing("days 0;days 1", 0);
        });
        test(50, "Returns the index of the last command that failed.", t -> {
            t.failing("days 1;days 1;days 0", 2);
            t.program(1, "days 1");
            t.is(2, "failedCommand");
            t.malformed("days 0;days 0;", 14);
            t.is(2, "failedCommand");
        });
    }
}
