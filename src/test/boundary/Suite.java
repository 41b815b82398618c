import java.util.Set;
import java.util.TreeSet;
import java.util.function.Consumer;

/** Runs the tests of the boundary cases, and looks whether a sentence of the document was left out. */
final class Suite {
    private final Document document;
    private final Set<String> tested = new TreeSet<>();
    private int tests = 0;
    private int wrong = 0;

    Suite(Document document) {
        this.document = document;
    }

    void run(int promise, String sentence, Consumer<Bench> calls) {
        String name = "promise " + promise + ", \"" + sentence + "\"";
        if (!document.says(promise, sentence)) {
            fault(name, "the document does not say this");
        }
        Bench bench = new Bench(fault -> fault(name, fault));
        calls.accept(bench);
        tested.add(promise + " " + sentence);
        tests++;
    }

    void checkThatNothingIsLeftOut() {
        for (int promise = 1; promise <= Document.PROMISES; promise++) {
            int number = promise;
            if (tested.stream().noneMatch(name -> name.startsWith(number + " "))) {
                fault("promise " + promise, "has no test");
            }
            for (String line : document.boundaryLines(promise)) {
                if (!tested.contains(promise + " " + line)) {
                    fault("promise " + promise + ", \"" + line + "\"", "has no test");
                }
            }
        }
    }

    private void fault(String name, String fault) {
        wrong++;
        System.out.println(name + ": " + fault);
    }

    /** Prints what came out; returns whether everything holds. */
    boolean report() {
        System.out.println(tests + " tests of boundary cases, " + wrong + " faults");
        return wrong == 0;
    }
}
