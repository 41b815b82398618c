/** Ways to see the state of an object. Most of them change it, so each gets an object of its own. */
enum Probe {
    VIEW {
        @Override
        String look(Played x) {
            return view(x);
        }
    },
    UNDOS {
        @Override
        String look(Played x) {
            StringBuilder seen = new StringBuilder();
            for (int i = 0; i < 10; i++) {
                seen.append(x.answer("undo")).append(": ").append(answers(x, "day", "price", "coins", "pledgeCount", "lotCount"))
                        .append("; ");
            }
            return seen.append(view(x)).toString();
        }
    },
    SNAPSHOT {
        @Override
        String look(Played x) {
            return x.answer("restore") + " " + x.answer("undo") + " " + view(x);
        }
    },
    NEXT_TICKET {
        @Override
        String look(Played x) {
            x.answer("redeem", x.answer("pledgeCount").equals(0) ? -1 : x.answer("pledgeAt", 0));
            x.answer("setPrice", 1);
            return "" + x.answer("pledge", 0, 1, 1);
        }
    },
    BUFFER_LENGTH {
        @Override
        String look(Played x) {
            return "" + x.answer("type", 'x');
        }
    },
    BUFFER {
        @Override
        String look(Played x) {
            return x.answer("execute") + " " + view(x);
        }
    },
    SLIP {
        @Override
        String look(Played x) {
            return slip(x);
        }
    },
    ERROR_POSITION {
        @Override
        String look(Played x) {
            return "" + x.answer("errorPosition");
        }
    },
    FAILED_COMMAND {
        @Override
        String look(Played x) {
            return "" + x.answer("failedCommand");
        }
    };

    private static final int WEEKDAYS = 7;
    private static final int BIDDERS = 5;
    private static final int LONGEST_SLIP = 80;

    abstract String look(Played x);

    static String view(Played x) {
        StringBuilder view = new StringBuilder();
        view.append(answers(x, "day", "price", "coins", "coinsByAccounts", "redeemedMinutes", "forfeitedMinutes",
                "soldMinutes", "pledgedMinutes"));
        for (int weekday = 0; weekday < WEEKDAYS; weekday++) {
            view.append(weekday == 0 ? "; " : " ").append(x.answer("rateOf", weekday));
        }
        int pledges = (Integer) x.answer("pledgeCount");
        for (int i = 0; i < pledges; i++) {
            Object ticket = x.answer("pledgeAt", i);
            view.append("; ").append(ticket);
            for (String name : new String[] {"customerOf", "minutesOf", "loanOf", "dueDayOf", "interestOf"}) {
                view.append(' ').append(x.answer(name, ticket));
            }
        }
        int lots = (Integer) x.answer("lotCount");
        for (int i = 0; i < lots; i++) {
            Object lot = x.answer("lotAt", i);
            view.append("; lot ").append(lot);
            view.append(' ').append(x.answer("minutesOf", lot)).append(' ').append(x.answer("loanOf", lot));
            for (int bidder = 0; bidder < BIDDERS; bidder++) {
                view.append(' ').append(x.answer("bidOf", lot, bidder));
            }
        }
        return view.toString();
    }

    static String slip(Played x) {
        StringBuilder slip = new StringBuilder();
        for (int i = 0; i < LONGEST_SLIP; i++) {
            Object character = x.answer("slipAt", i);
            if (!(character instanceof Character)) {
                return slip.toString();
            }
            slip.append(character);
        }
        return slip.toString();
    }

    private static String answers(Played x, String... names) {
        StringBuilder seen = new StringBuilder();
        for (String name : names) {
            seen.append(x.answer(name)).append(' ');
        }
        return seen.toString().trim();
    }
}
