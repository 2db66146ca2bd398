import java.io.IOException;
import java.nio.file.Path;
import java.util.List;

/** Promises 1 to 30: a test for each sentence of the document that names a boundary case. */
public final class BoundaryTest {
    private static final Sentences s = new Sentences();

    public static void main(String[] args) throws IOException {
        List<Runnable> parts = List.of(new TermsBoundaries(s)::run, new ScoreBoundaries(s)::run,
                new SettingsBoundaries(s)::run, new RegisterBoundaries(s)::run, new MatchBoundaries(s)::run,
                new AskBoundaries(s)::run, new ForecastBoundaries(s)::run, new TextBoundaries(s)::run,
                new UndoBoundaries(s)::run, new RefusalBoundaries(s)::run);
        for (Runnable part : parts) {
            try {
                part.run();
            } catch (RuntimeException thrown) {
                s.fail("a call has thrown " + thrown);
            }
        }
        wordsWithoutBoundary();
        s.compareWithDocument(Path.of("../shared/DOC.md"));
        s.end();
    }

    private static void wordsWithoutBoundary() {
        List<String> terms = List.of("All values are integers.", "Days. ", "Bags. ", "Claims. ", "Weights. ", "Scores. ",
                "Matches. ", "Money. ", "Text. ", "Undo. ", "Error codes. ", "The constants: ",
                "Ahead of the calls `setWeight`, `setThreshold`, `setMoney` the interface says: ---- settings.",
                "Ahead of the calls `found`, `claim`, `match`, `unmatch`, `matchAll`, `deliver`, `giveUp`, `auction`, "
                        + "`pass` the interface says: ---- bags and claims.",
                "Ahead of the calls `count`, `bag`, `claimOf`, `score`, `suggest`, `sameDigits` the interface says: "
                        + "---- asking.",
                "Ahead of the calls `bestTotal`, `totalOfAll`, `thresholdFor`, `ifEnded` the interface says: ",
                "Ahead of the calls `type`, `clearText`, `syntaxError`, `readBags`, `problem` the interface says: "
                        + "---- text.",
                "Ahead of the calls `undo`, `digest` the interface says: ---- undo.");
        for (String words : terms) {
            s.noBoundary(Sentences.TERMS, words);
        }
        s.noBoundary(Sentences.INTRO, "A tracing office for lost luggage: bags that were found, with tags that may be "
                + "partly illegible, claims with tags, colours, kinds, marks, routes and worths, scores by adjustable "
                + "weights, suggestions, matches by hand and of all at once, the best total that matches could have, "
                + "deliveries and claims that are given up with what is paid for them, auctions, and bags that are read "
                + "from a text with the reasons of refusals.");
        ofPromises("- `claim`: number of the claim", 7, 8, 10, 11, 16, 17, 18, 19, 22, 23);
        ofPromises("- `bag`: number of the bag", 7, 12, 15, 17, 19, 22);
        ofPromises("Returns the number", 14, 15, 16, 28);
        ofPromises("Returns a number of the office.", 14);
        ofPromises("Returns something about a bag.", 15);
        ofPromises("Returns something about a claim.", 16);
        ofPromises("Returns a score, or a part of it.", 17);
        ofPromises("Returns the score", 17);
        ofPromises("Suggests a bag for a claim: ", 18);
        ofPromises("Returns the sum", 20, 21);
        ofPromises("Returns the threshold", 22);
        ofPromises("Finds the first syntax error of the text.", 26);
        ofPromises("Computes a hash of the state.", 30);
        ofPromises("Returns the hash.", 30);
    }

    private static void ofPromises(String words, int... promises) {
        for (int promise : promises) {
            s.noBoundary(Sentences.heading(promise), words);
        }
    }
}
