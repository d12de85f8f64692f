import java.util.function.Supplier;
import java.util.function.ToLongFunction;

/** Answers that are due by some words of the document: a test says first which words it is of. */
final class Edges {
    private final Document document = new Document();
    private final Due due = new Due();
    private String words = "";

    void opening(String sentence) {
        of(Document.OPENING, sentence);
    }

    void terms(String sentence) {
        of("Terms", sentence);
    }

    void promise(int number, String sentence) {
        of("Promise " + number, sentence);
    }

    private void of(String heading, String sentence) {
        words = heading + ", \"" + sentence + "\": ";
        due.same(words + "stands in the document", 1, document.says(heading, sentence) ? 1 : 0);
    }

    void same(String call, long want, long got) {
        due.same(words + call, want, got);
    }

    void is(String what, boolean so) {
        due.same(words + what, 1, so ? 1 : 0);
    }

    /** The call is refused, and nothing changes but how many REFUSALS there were. */
    void refused(int number, Supplier<NoiseKeys> state, String call, ToLongFunction<NoiseKeys> made) {
        Untouched.by(due, state, number, Integer.toString(number), words + call, made);
    }

    /** The call answers so, and nothing changes at all. */
    void untouched(String answer, Supplier<NoiseKeys> state, String call, ToLongFunction<NoiseKeys> made) {
        Untouched.by(due, state, 0, answer, words + call, made);
    }

    /** Every sentence was some test's own, and all answers were the ones due. */
    void end() {
        for (String sentence : document.untested()) {
            due.same(sentence, "tested", "untested");
        }
        due.end();
    }
}
