import java.io.IOException;
import java.nio.file.Path;

/** The boundary cases of each sentence of the document's terms and promises, a method for each sentence. */
public final class EdgesTest {
    public static void main(String[] args) throws IOException {
        Sentences.load(Path.of(args.length > 0 ? args[0] : ".", "..", "shared", "DOC.md"));
        TermsEdges.all();
        KeepingTermsEdges.all();
        TextsAndToldEdges.all();
        AnswersEdges.all();
        Sentences.allAreTested();
        calls512();
        Due.end();
    }

    private static void calls512() {
        Due.by("An object is used for at most 512 calls after it has been made");
        PocketKeeper x = new PocketKeeper();
        x.letter('a');
        x.letter(',');
        x.letter('b');
        Due.due("call 4, jobs()", x.jobs(), 2);
        for (int call = 5; call <= 510; call++) {
            Due.due("call " + call + ", swap(0, 1)", x.swap(0, 1), call - 4);
        }
        Due.due("call 511, count(5)", x.count(5), 506);
        Due.due("call 512, job(0, 1)", x.job(0, 1), 0);
        readAndFillOften();
    }

    private static void readAndFillOften() {
        PocketKeeper x = new PocketKeeper();
        for (int i = 1; i <= 256; i++) {
            Due.due("letter " + i, x.letter('a' + i % 8), 1);
            Due.due("jobs() " + i, x.jobs(), 1);
        }
        Due.due("count(6) behind 256 readings", x.count(6), 256);
        PocketKeeper y = new PocketKeeper();
        for (int i = 1; i <= 511; i++) {
            Due.due("letter " + i, y.letter('~'), i <= 71 ? i : PocketKeeper.FULL);
        }
        Due.due("call 512, blank()", y.blank(), 71);
    }
}
