import java.util.ArrayList;
import java.util.EnumSet;
import java.util.List;
import java.util.Set;
import java.util.function.Consumer;

/** The calls of one test. What is due stands ahead of the call. */
final class Bench {
    private final Consumer<String> faults;
    private List<Played.Call> calls = new ArrayList<>();
    private Played x = new Played();

    Bench(Consumer<String> faults) {
        this.faults = faults;
    }

    /** Goes on with a new object. */
    void fresh() {
        calls = new ArrayList<>();
        x = new Played();
    }

    private Object answer(String name, Object... arguments) {
        Played.Call call = new Played.Call(name, arguments);
        calls.add(call);
        return x.answer(call);
    }

    private void compare(Object want, Object got, String what) {
        if (!want.equals(got)) {
            faults.accept(what + " answered " + got + ", due is " + want + " (call " + calls.size() + ")");
        }
    }

    void is(Object want, String name, Object... arguments) {
        compare(want, answer(name, arguments), new Played.Call(name, arguments).toString());
    }

    /** A call that prepares the test; it must not throw. */
    void call(String name, Object... arguments) {
        Object got = answer(name, arguments);
        if (got.toString().startsWith("throws ")) {
            compare("an answer", got, new Played.Call(name, arguments).toString());
        }
    }

    /** The call throws, and changes nothing: an object without this call is in the same state. */
    void refuses(String exception, String name, Object... arguments) {
        List<Played.Call> without = new ArrayList<>(calls);
        is(exception, name, arguments);
        compareStates(without, EnumSet.allOf(Probe.class), "after " + new Played.Call(name, arguments));
    }

    private void compareStates(List<Played.Call> without, Set<Probe> probes, String what) {
        for (Probe probe : probes) {
            compare(probe.look(Played.of(without)), probe.look(Played.of(calls)), what + " the probe " + probe);
        }
    }

    void type(String text) {
        for (int i = 0; i < text.length(); i++) {
            call("type", text.charAt(i));
        }
    }

    /** The program is executed and has so many commands. */
    void program(int commands, String text) {
        type(text);
        is(commands, "execute");
    }

    /** The program is malformed, and nothing but the error position changes. The buffer must be empty before. */
    void malformed(String text, int position) {
        stopped(Sentences.ARGUMENT, text, "errorPosition", position, Probe.ERROR_POSITION);
    }

    /** A command fails, and nothing but the failed command changes. The buffer must be empty before. */
    void failing(String text, int index) {
        stopped(Sentences.STATE, text, "failedCommand", index, Probe.FAILED_COMMAND);
    }

    private void stopped(String exception, String text, String stored, int value, Probe changed) {
        List<Played.Call> without = new ArrayList<>(calls);
        type(text);
        String what = "the program \"" + text + "\"";
        compare(exception, answer("execute"), what);
        compare(value, answer(stored), stored + " after " + what);
        compareStates(without, EnumSet.complementOf(EnumSet.of(changed)), "after " + what);
    }

    /** What stands in the object now; looked at in another one, so that no calls are used up. */
    String view() {
        return Probe.view(Played.of(calls));
    }

    void sees(String want) {
        compare(want, view(), "the state");
    }

    void hasSlip(String want) {
        compare(want, Probe.slip(Played.of(calls)), "the slip");
    }

    /** Pledges of customer 0, of one minute each, due in 60 days. */
    void pledges(int count) {
        for (int i = 0; i < count; i++) {
            call("pledge", 0, 1, 60);
        }
    }

    /** Pledges of customer 0 that are forfeited at once: two days pass. */
    void lots(int... minutes) {
        for (int m : minutes) {
            call("pledge", 0, m, 1);
        }
        call("passDays", 2);
    }

    /** The ticket that a pledge would get now; there must be room for it. */
    int nextTicket() {
        return (Integer) Played.of(calls).answer("pledge", 0, 1, 1);
    }

    void rates(int... rates) {
        for (int weekday = 0; weekday < rates.length; weekday++) {
            call("setRate", weekday, rates[weekday]);
        }
    }
}
