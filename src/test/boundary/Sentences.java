import java.util.function.Consumer;

/** Tests of sentences of the document, each with its promise. */
abstract class Sentences {
    static final String ARGUMENT = "throws IllegalArgumentException";
    static final String STATE = "throws IllegalStateException";
    static final String UNSUPPORTED = "throws UnsupportedOperationException";
    static final String ELEMENT = "throws NoSuchElementException";
    static final String INDEX = "throws IndexOutOfBoundsException";
    static final String ARITHMETIC = "throws ArithmeticException";
    static final int MIN = Integer.MIN_VALUE;
    static final int MAX = Integer.MAX_VALUE;
    static final String SEVERAL = "If several exceptions apply, the one that is documented first is thrown.";

    private final Suite suite;

    Sentences(Suite suite) {
        this.suite = suite;
    }

    abstract void all();

    final void test(int promise, String sentence, Consumer<Bench> calls) {
        suite.run(promise, sentence, calls);
    }
}
