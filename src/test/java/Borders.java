import java.io.IOException;
import java.nio.file.Path;

/** Counts the answers at borders; each stands behind the promise or the term, and the sentence, that it is of. */
final class Borders {
    private final TestHelp help = new TestHelp();
    private final Doc doc;
    private String sentence = "";

    Borders() throws IOException {
        doc = new Doc(Path.of(System.getProperty("root", "."), "..", "shared", "DOC.md"));
    }

    void of(String part, String words) {
        sentence = part + ", \"" + words + "\": ";
        help.due(sentence + "stands in the document", doc.names(part, words), true);
    }

    void term(String words) {
        of("Terms", words);
    }

    void promise(int number, String words) {
        of("Promise " + number, words);
    }

    void due(String call, long got, long want) {
        help.due(sentence + call, got, want);
    }

    void due(String call, boolean got, boolean want) {
        help.due(sentence + call, got, want);
    }

    void dueNone(String call, TestHelp.Call made) {
        help.dueNone(sentence + call, made);
    }

    /** The ACTS of a PLAN that was made: who, CHAP, F and listeners, the latter two 0 when not told; none is WRONG. */
    void dueActs(String call, NineReaders x, int answered, int[]... acts) {
        due(call, answered, acts.length);
        due(call + ", then count(2)", x.count(2), acts.length);
        for (int i = 0; i < acts.length && i < answered; i++) {
            for (int what = 0; what < 4; what++) {
                int want = what < acts[i].length ? acts[i][what] : 0;
                due(call + ", then act(" + i + ", " + what + ")", x.act(i, what), want);
            }
        }
        due(call + ", then run()", x.run(), -1);
    }

    /** Each word of the Terms and of the promises stands in a sentence that a test is of. */
    void finish() {
        for (String words : doc.unnamed()) {
            help.due("a test is of: " + words, false, true);
        }
        help.finish();
    }
}
