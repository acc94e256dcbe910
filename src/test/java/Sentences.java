import java.util.function.Consumer;

/** Runs the tests of single sentences of the document, so that each one fails by its own words. */
final class Sentences {
    private final String name;
    private int tested;
    private int broken;

    Sentences(String name) {
        this.name = name;
    }

    void test(String sentence, Consumer<Due> test) {
        Due due = new Due(sentence);
        tested++;
        try {
            test.accept(due);
        } catch (RuntimeException e) {
            due.holds("it ends without " + e, false);
        }
        // A test that asks nothing holds nothing.
        due.holds("something was asked", due.asked() > 0);
        broken += due.wrong() > 0 ? 1 : 0;
    }

    void close() {
        System.out.println(name + ": " + tested + " sentences tested, " + broken + " broken");
        if (broken != 0) {
            System.exit(1);
        }
    }
}
