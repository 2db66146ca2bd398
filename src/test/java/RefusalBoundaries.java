import java.util.function.Supplier;
import java.util.function.ToLongFunction;

/** The sentences of the Terms on error codes, for each method that returns one. */
final class RefusalBoundaries {
    private static final Supplier<LuggageTracing> BUSY = Offices::busy;
    private static final Supplier<LuggageTracing> FULL = Offices::full;
    private static final Supplier<LuggageTracing> EMPTY = Offices::empty;

    private final Sentences s;

    RefusalBoundaries(Sentences s) {
        this.s = s;
    }

    void run() {
        registeringChangesNothing();
        matchingChangesNothing();
        askingChangesNothing();
        textChangesNothing();
        firstNamed();
        firstNamedOfBagsAndClaims();
        noneIsNoErrorCode();
    }

    private void refuses(int promise, String call, Supplier<LuggageTracing> office,
            ToLongFunction<LuggageTracing> asked, int code) {
        s.terms(promise, Sentences.CHANGES_NOTHING);
        s.refused(call, office, asked, code);
    }

    private void registeringChangesNothing() {
        refuses(2, "setWeight(6, 7)", BUSY, x -> x.setWeight(6, 7), Checks.NO_SUCH);
        refuses(2, "setWeight(0, 51)", BUSY, x -> x.setWeight(0, 51), Checks.BAD_VALUE);
        refuses(3, "setThreshold(201)", BUSY, x -> x.setThreshold(201), Checks.BAD_VALUE);
        refuses(4, "setMoney(501, 7)", BUSY, x -> x.setMoney(501, 7), Checks.BAD_VALUE);
        refuses(4, "setMoney(7, 10000)", BUSY, x -> x.setMoney(7, 10000), Checks.BAD_VALUE);
        refuses(5, "found(0, 0, 0, 0, 0, 256)", BUSY, x -> x.found(0, 0, 0, 0, 0, 256), Checks.BAD_VALUE);
        refuses(5, "found(0, 0, 0, 0, 0, 0)", FULL, Offices::bag, Checks.LIMIT);
        refuses(6, "claim(0, 0, 0, 0, 1, 1, 0, 31)", BUSY, x -> x.claim(0, 0, 0, 0, 1, 1, 0, 31), Checks.BAD_VALUE);
        refuses(6, "claim(0, 0, 0, 0, 1, 1, 0, 0)", FULL, Offices::claim, Checks.LIMIT);
        refuses(13, "pass(401)", BUSY, x -> x.pass(401), Checks.BAD_VALUE);
        refuses(13, "pass(1)", Offices::lastDay, x -> x.pass(1), Checks.LIMIT);
        s.terms(5, Sentences.CHANGES_NOTHING);
        LuggageTracing y = new LuggageTracing();
        y.found(8, 0, 0, 0, 0, 0);
        y.claim(0, 0, 0, 0, 0, 1, 0, 0);
        s.due("found after an error has the first number", Offices.bag(y), 1);
        s.due("claim after an error has the first number", Offices.claim(y), 1);
        LuggageTracing z = Offices.withBagsAndClaims(12, 10);
        Offices.bag(z);
        Offices.claim(z);
        z.pass(90);
        z.auction(1);
        z.giveUp(1);
        s.due("found after LIMIT has the next number", Offices.bag(z), 13);
        s.due("claim after LIMIT has the next number", Offices.claim(z), 11);
    }

    private void matchingChangesNothing() {
        refuses(7, "match(5, 1)", BUSY, x -> x.match(5, 1), Checks.NO_SUCH);
        refuses(7, "match(1, 4)", BUSY, x -> x.match(1, 4), Checks.NO_SUCH);
        refuses(7, "match(1, 3) of a matched bag", BUSY, x -> x.match(1, 3), Checks.NOT_POSSIBLE);
        refuses(7, "match(3, 1) of a matched claim", BUSY, x -> x.match(3, 1), Checks.NOT_POSSIBLE);
        refuses(7, "match(4, 1) without a score", BUSY, x -> x.match(4, 1), Checks.NOT_POSSIBLE);
        refuses(8, "unmatch(5)", BUSY, x -> x.unmatch(5), Checks.NO_SUCH);
        refuses(8, "unmatch(1)", BUSY, x -> x.unmatch(1), Checks.NOT_POSSIBLE);
        refuses(10, "deliver(5)", BUSY, x -> x.deliver(5), Checks.NO_SUCH);
        refuses(10, "deliver(1)", BUSY, x -> x.deliver(1), Checks.NOT_POSSIBLE);
        refuses(11, "giveUp(5)", BUSY, x -> x.giveUp(5), Checks.NO_SUCH);
        refuses(11, "giveUp(3) of a matched claim", BUSY, x -> x.giveUp(3), Checks.NOT_POSSIBLE);
        refuses(11, "giveUp(4) after 10 days", BUSY, x -> x.giveUp(4), Checks.NOT_POSSIBLE);
        refuses(12, "auction(4)", BUSY, x -> x.auction(4), Checks.NO_SUCH);
        refuses(12, "auction(3) of a matched bag", BUSY, x -> x.auction(3), Checks.NOT_POSSIBLE);
        refuses(12, "auction(2) after 0 days", BUSY, x -> x.auction(2), Checks.NOT_POSSIBLE);
        refuses(29, "undo()", EMPTY, LuggageTracing::undo, Checks.NOT_POSSIBLE);
    }

    private void askingChangesNothing() {
        refuses(14, "count(8)", BUSY, x -> x.count(8), Checks.BAD_VALUE);
        refuses(15, "bag(4, 0)", BUSY, x -> x.bag(4, 0), Checks.NO_SUCH);
        refuses(15, "bag(1, 8)", BUSY, x -> x.bag(1, 8), Checks.BAD_VALUE);
        refuses(16, "claimOf(5, 0)", BUSY, x -> x.claimOf(5, 0), Checks.NO_SUCH);
        refuses(16, "claimOf(1, 9)", BUSY, x -> x.claimOf(1, 9), Checks.BAD_VALUE);
        refuses(17, "score(5, 1, 0)", BUSY, x -> x.score(5, 1, 0), Checks.NO_SUCH);
        refuses(17, "score(1, 1, 7)", BUSY, x -> x.score(1, 1, 7), Checks.BAD_VALUE);
        refuses(18, "suggest(5, 0)", BUSY, x -> x.suggest(5, 0), Checks.NO_SUCH);
        refuses(18, "suggest(2, 3)", BUSY, x -> x.suggest(2, 3), Checks.NO_SUCH);
        refuses(19, "sameDigits(1, 4)", BUSY, x -> x.sameDigits(1, 4), Checks.NO_SUCH);
        refuses(22, "thresholdFor(1, 4)", BUSY, x -> x.thresholdFor(1, 4), Checks.NO_SUCH);
        refuses(23, "ifEnded(5, 0, 0)", BUSY, x -> x.ifEnded(5, 0, 0), Checks.NO_SUCH);
        refuses(23, "ifEnded(1, 401, 0)", BUSY, x -> x.ifEnded(1, 401, 0), Checks.BAD_VALUE);
        refuses(23, "ifEnded(1, 0, 2)", BUSY, x -> x.ifEnded(1, 0, 2), Checks.BAD_VALUE);
    }

    private void textChangesNothing() {
        refuses(24, "type(127)", BUSY, x -> x.type(127), Checks.BAD_VALUE);
        refuses(24, "type(97)", Offices::fullText, x -> x.type(97), Checks.LIMIT);
        refuses(28, "problem(3)", BUSY, x -> x.problem(3), Checks.BAD_VALUE);
        refuses(28, "problem(3) before any", EMPTY, x -> x.problem(3), Checks.BAD_VALUE);

        s.terms(27, Sentences.CHANGES_NOTHING);
        s.due("readBags() that answers LIMIT", Offices.full().readBags(), Checks.LIMIT);
        s.leavesButProblems("readBags() that answers LIMIT", FULL, LuggageTracing::readBags, FULL);
        s.due("readBags() that answers BAD_TEXT", Offices.fullText().readBags(), Checks.BAD_TEXT);
        s.leavesButProblems("readBags() that answers BAD_TEXT", Offices::fullText, LuggageTracing::readBags,
                Offices::fullText);
        LuggageTracing x = Offices.full();
        s.due("problem(0) before readBags()", x.problem(0), Checks.NONE);
        x.readBags();
        s.due("problem(0) after readBags()", x.problem(0), Checks.LIMIT);
    }

    private void first(int promise, String call, Supplier<LuggageTracing> office, ToLongFunction<LuggageTracing> asked,
            int code) {
        s.terms(promise, Sentences.FIRST_NAMED);
        s.refused(call, office, asked, code);
    }

    private void firstNamed() {
        first(2, "setWeight(6, 51)", BUSY, x -> x.setWeight(6, 51), Checks.NO_SUCH);
        first(2, "setWeight(-1, -1)", BUSY, x -> x.setWeight(-1, -1), Checks.NO_SUCH);
        first(5, "found(8, 0, 0, 0, 0, 0) when there are 12 bags", FULL, x -> x.found(8, 0, 0, 0, 0, 0),
                Checks.BAD_VALUE);
        first(5, "found(0, 0, 0, 0, 0, -1) when there are 12 bags", FULL, x -> x.found(0, 0, 0, 0, 0, -1),
                Checks.BAD_VALUE);
        first(6, "claim(-1, 0, 0, 0, 1, 1, 0, 0) when there are 10 claims", FULL,
                x -> x.claim(-1, 0, 0, 0, 1, 1, 0, 0), Checks.BAD_VALUE);
        first(6, "claim(0, 0, 0, 0, 1, 1, 0, 31) when there are 10 claims", FULL,
                x -> x.claim(0, 0, 0, 0, 1, 1, 0, 31), Checks.BAD_VALUE);
        first(13, "pass(401) on the last day", Offices::lastDay, x -> x.pass(401), Checks.BAD_VALUE);
        first(13, "pass(0) on the last day", Offices::lastDay, x -> x.pass(0), Checks.BAD_VALUE);
        first(13, "pass(max) on the last day", Offices::lastDay, x -> x.pass(Integer.MAX_VALUE), Checks.BAD_VALUE);
        first(24, "type(32) when the text has 80 characters", Offices::fullText, x -> x.type(32), Checks.BAD_VALUE);
        first(24, "type(127) when the text has 80 characters", Offices::fullText, x -> x.type(127), Checks.BAD_VALUE);
        first(28, "problem(-1) before any", EMPTY, x -> x.problem(-1), Checks.BAD_VALUE);
        first(28, "problem(3) before any", EMPTY, x -> x.problem(3), Checks.BAD_VALUE);

        s.terms(27, Sentences.FIRST_NAMED);
        LuggageTracing x = Offices.full();
        x.type(';');
        s.due("readBags() of a wrong text without room", x.readBags(), Checks.BAD_TEXT);
        s.due("problem(0) of a wrong text without room", x.problem(0), Checks.BAD_TEXT);
        s.due("problem(1) of a wrong text without room", x.problem(1), 2);
        LuggageTracing y = Offices.full();
        y.clearText();
        s.due("readBags() of the empty text without room", y.readBags(), Checks.BAD_TEXT);
    }

    private void firstNamedOfBagsAndClaims() {
        first(7, "match(5, 3): no such claim, and the bag is not free", BUSY, x -> x.match(5, 3), Checks.NO_SUCH);
        first(7, "match(3, 4): no such bag, and the claim is not free", BUSY, x -> x.match(3, 4), Checks.NO_SUCH);
        first(15, "bag(4, 8)", BUSY, x -> x.bag(4, 8), Checks.NO_SUCH);
        first(15, "bag(0, -1)", EMPTY, x -> x.bag(0, -1), Checks.NO_SUCH);
        first(16, "claimOf(5, 9)", BUSY, x -> x.claimOf(5, 9), Checks.NO_SUCH);
        first(16, "claimOf(0, -1)", EMPTY, x -> x.claimOf(0, -1), Checks.NO_SUCH);
        first(17, "score(5, 1, 7)", BUSY, x -> x.score(5, 1, 7), Checks.NO_SUCH);
        first(17, "score(1, 4, -1)", BUSY, x -> x.score(1, 4, -1), Checks.NO_SUCH);
        first(17, "score(4, 1, 7) without a score", BUSY, x -> x.score(4, 1, 7), Checks.BAD_VALUE);
        first(17, "score(4, 1, -1) without a score", BUSY, x -> x.score(4, 1, -1), Checks.BAD_VALUE);
        first(23, "ifEnded(5, 401, 0)", BUSY, x -> x.ifEnded(5, 401, 0), Checks.NO_SUCH);
        first(23, "ifEnded(5, 0, 2)", BUSY, x -> x.ifEnded(5, 0, 2), Checks.NO_SUCH);
        first(23, "ifEnded(0, -1, -1)", EMPTY, x -> x.ifEnded(0, -1, -1), Checks.NO_SUCH);
    }

    private void noneIsNoErrorCode() {
        String sentence = "NONE is not an error code.";
        s.terms(26, sentence);
        LuggageTracing x = Offices.withText(Offices.BAG);
        s.due("syntaxError() of a bag list", x.syntaxError(), Checks.NONE);
        s.due("problem(0) after it", x.problem(0), Checks.NONE);
        s.due("readBags() after it", x.readBags(), 1);

        s.terms(17, sentence);
        LuggageTracing y = Offices.busy();
        s.due("score(4, 1, 0) of a pair without a score", y.score(4, 1, 0), Checks.NONE);
        s.due("thresholdFor(4, 1) of a pair without a score", y.thresholdFor(4, 1), Checks.NONE);
        s.leaves("score(4, 1, 0) of a pair without a score", BUSY, z -> z.score(4, 1, 0), BUSY);
    }
}
