import java.math.BigInteger;
import java.util.ArrayList;
import java.util.List;
import java.util.function.ToLongFunction;

/** The sentences of promises 29 and 30 and of the Terms on undo. */
final class UndoBoundaries {
    private final Sentences s;

    UndoBoundaries(Sentences s) {
        this.s = s;
    }

    void run() {
        undoableCallsSave();
        otherCallsSaveNothing();
        atMostSix();
        theSeventh();
        theState();
        undo();
        digestsArithmetic();
        digestsList();
    }

    private void undoableCallsSave() {
        String sentence = "Methods marked \"Undoable\" save the state from before the call if they return no error code.";
        saves(2, sentence, "setWeight(0, 0)", x -> x.setWeight(0, 0));
        saves(2, sentence, "setWeight(0, 8) to what it was", x -> x.setWeight(0, 8));
        saves(3, sentence, "setThreshold(0)", x -> x.setThreshold(0));
        saves(3, sentence, "setThreshold(35) to what it was", x -> x.setThreshold(35));
        saves(4, sentence, "setMoney(0, 0)", x -> x.setMoney(0, 0));
        saves(5, sentence, "found", Offices::bag);
        saves(6, sentence, "claim", Offices::claim);
        saves(7, sentence, "match(1, 1)", x -> x.match(1, 1));
        saves(8, sentence, "unmatch(3)", x -> x.unmatch(3));
        saves(9, sentence, "matchAll()", LuggageTracing::matchAll);
        saves(9, sentence, "the second of two calls of matchAll()", x -> {
            x.matchAll();
            x.undo();
            x.setThreshold(200);
            x.matchAll();
            return x.undo();
        });
        saves(10, sentence, "deliver(3)", x -> x.deliver(3));
        saves(11, sentence, "giveUp(2)", x -> x.giveUp(2));
        saves(12, sentence, "auction(1)", x -> x.auction(1));
        saves(13, sentence, "pass(1)", x -> x.pass(1));
        saves(27, sentence, "readBags()", LuggageTracing::readBags);
    }

    // A busy office has three saved states, so there is room for a fourth one.
    private void saves(int promise, String sentence, String call, ToLongFunction<LuggageTracing> asked) {
        s.terms(promise, sentence);
        LuggageTracing x = Offices.busy();
        long before = x.digest();
        s.due(call + " is no error", asked.applyAsLong(x) > Checks.NO_SUCH ? 1 : 0, 1);
        s.due("undo() after " + call, x.undo(), 3);
        s.due("digest() after " + call + " and undo()", x.digest(), before);
        LuggageTracing y = Offices.busy();
        asked.applyAsLong(y);
        s.due("the saved states after " + call, Offices.savedStates(y), 4);
    }

    private void otherCallsSaveNothing() {
        String sentence = "Methods marked \"Undoable\" save the state from before the call if they return no error code.";
        savesNothing(14, sentence, "count(7)", x -> x.count(7));
        savesNothing(15, sentence, "bag(1, 7)", x -> x.bag(1, 7));
        savesNothing(16, sentence, "claimOf(1, 8)", x -> x.claimOf(1, 8));
        savesNothing(17, sentence, "score(1, 1, 0)", x -> x.score(1, 1, 0));
        savesNothing(18, sentence, "suggest(2, 0)", x -> x.suggest(2, 0));
        savesNothing(19, sentence, "sameDigits(1, 1)", x -> x.sameDigits(1, 1));
        savesNothing(20, sentence, "bestTotal()", LuggageTracing::bestTotal);
        savesNothing(21, sentence, "totalOfAll()", LuggageTracing::totalOfAll);
        savesNothing(22, sentence, "thresholdFor(2, 2)", x -> x.thresholdFor(2, 2));
        savesNothing(23, sentence, "ifEnded(2, 1, 1)", x -> x.ifEnded(2, 1, 1));
        savesNothing(24, sentence, "type(97)", x -> x.type(97));
        savesNothing(25, sentence, "clearText()", LuggageTracing::clearText);
        savesNothing(26, sentence, "syntaxError()", LuggageTracing::syntaxError);
        savesNothing(28, sentence, "problem(0)", x -> x.problem(0));
        savesNothing(30, sentence, "digest()", LuggageTracing::digest);
    }

    private void savesNothing(int promise, String sentence, String call, ToLongFunction<LuggageTracing> asked) {
        s.terms(promise, sentence);
        LuggageTracing x = Offices.busy();
        asked.applyAsLong(x);
        s.due("the saved states after " + call, Offices.savedStates(x), 3);
        LuggageTracing y = Offices.empty();
        asked.applyAsLong(y);
        s.due("undo() after " + call + " alone", y.undo(), Checks.NOT_POSSIBLE);
    }

    private void atMostSix() {
        s.terms(29, "At most 6 states are saved");
        for (int calls = 0; calls <= 20; calls++) {
            LuggageTracing x = new LuggageTracing();
            for (int call = 0; call < calls; call++) {
                x.pass(1);
            }
            s.due("the saved states after " + calls + " calls", Offices.savedStates(x), Math.min(calls, 6));
        }
        LuggageTracing y = Offices.full();
        s.due("the saved states after six and three calls of undo()", Offices.savedStates(y), 3);
    }

    private void theSeventh() {
        s.terms(29, "when a seventh one is saved, the oldest one is discarded.");
        for (int calls = 1; calls <= 20; calls++) {
            LuggageTracing x = new LuggageTracing();
            for (int call = 0; call < calls; call++) {
                x.pass(1);
            }
            for (int back = 1; back <= Math.min(calls, 6); back++) {
                x.undo();
                s.due("count(0) after " + calls + " calls and " + back + " of undo()", x.count(0), calls - back);
            }
            s.due("undo() once more", x.undo(), Checks.NOT_POSSIBLE);
            s.due("count(0) after it", x.count(0), Math.max(calls - 6, 0));
        }
        LuggageTracing y = new LuggageTracing();
        int[] passed = {1, 2, 4, 8};
        for (int days : passed) {
            y.pass(days);
        }
        y.undo();
        y.undo();
        for (int days : new int[] {16, 32, 64, 128, 256}) {
            y.pass(days);
        }
        int[] due = {243, 115, 51, 19, 3, 1};
        for (int day : due) {
            y.undo();
            s.due("count(0) after undo() of four, two undone, and five", y.count(0), day);
        }
        s.due("undo() of the seventh", y.undo(), Checks.NOT_POSSIBLE);
        LuggageTracing z = new LuggageTracing();
        for (int call = 0; call < 7; call++) {
            Offices.bag(z);
        }
        s.due("found with an error when six states are saved", z.found(8, 0, 0, 0, 0, 0), Checks.BAD_VALUE);
        s.due("the saved states after an error", Offices.savedStates(z), 6);
        s.due("count(1)", z.count(1), 1);
    }

    private void theState() {
        String sentence = "The state is everything except the text, the saved states and what problem() tells.";
        s.terms(29, sentence);
        LuggageTracing x = Offices.withText("9");
        Offices.bag(x);
        x.type('8');
        x.undo();
        s.due("clearText(): undo() leaves the text", x.clearText(), 2);
        Offices.bag(x);
        Checks.typeAll(x, Offices.BAG);
        x.clearText();
        x.undo();
        s.due("clearText(): undo() brings no text back", x.clearText(), 0);
        x.readBags();
        Offices.bag(x);
        Checks.typeAll(x, "1!");
        x.readBags();
        x.undo();
        s.due("problem(2): undo() leaves what it tells", x.problem(2), 1);
        s.due("problem(0): undo() leaves what it tells", x.problem(0), Checks.BAD_TEXT);

        s.terms(27, sentence);
        LuggageTracing y = Offices.withText(Offices.TWO_BAGS);
        y.readBags();
        y.undo();
        s.due("count(1) after undo() of readBags()", y.count(1), 0);
        s.due("clearText() after undo() of readBags()", y.clearText(), 0);

        s.terms(5, sentence);
        LuggageTracing z = Offices.withBagsAndClaims(3, 0);
        z.undo();
        s.due("found after undo() has its number again", Offices.bag(z), 3);
        z.pass(90);
        z.auction(3);
        z.undo();
        s.due("found after undo() of an auction", Offices.bag(z), 4);
        s.due("bag(3, 0) after undo() of an auction", z.bag(3, 0), 0);

        s.terms(6, sentence);
        LuggageTracing w = Offices.withBagsAndClaims(0, 3);
        w.undo();
        s.due("claim after undo() has its number again", Offices.claim(w), 3);

        s.terms(29, sentence);
        LuggageTracing v = severalUndone();
        s.due("undo() after several changes, some of them undone", v.undo(), 2);
        s.leavesNow("several changes, some of them undone", UndoBoundaries::severalUndone, LuggageTracing::undo, () -> {
            LuggageTracing u = Offices.busy();
            u.setWeight(0, 50);
            return u;
        });
    }

    // The first of the changes, setWeight, is the only one that no call of undo() has taken back.
    private static LuggageTracing severalUndone() {
        LuggageTracing x = Offices.busy();
        x.setWeight(0, 50);
        x.setThreshold(200);
        x.setMoney(500, 9999);
        x.giveUp(2);
        x.deliver(3);
        for (int back = 0; back < 4; back++) {
            x.undo();
        }
        x.setMoney(1, 1);
        x.undo();
        x.auction(1);
        return x;
    }

    private void undo() {
        s.promise(29, "Restores the state that was saved last");
        LuggageTracing x = Offices.full();
        List<Long> digests = new ArrayList<>();
        digests.add(x.digest());
        x.unmatch(1);
        digests.add(x.digest());
        x.matchAll();
        digests.add(x.digest());
        x.pass(400);
        digests.add(x.digest());
        x.deliver(10);
        for (int back = 3; back >= 0; back--) {
            x.undo();
            s.due("digest() before change " + (back + 1), x.digest(), digests.get(back));
        }

        s.promise(29, "and discards it from the saved states.");
        LuggageTracing y = new LuggageTracing();
        y.pass(1);
        y.pass(2);
        y.undo();
        s.due("count(0) after undo()", y.count(0), 1);
        y.undo();
        s.due("count(0) after a second undo()", y.count(0), 0);
        s.due("undo() does not bring back what was undone", y.undo(), Checks.NOT_POSSIBLE);
        y.pass(5);
        y.undo();
        s.due("count(0) after undo() of another call", y.count(0), 0);

        s.promise(29, "Returns the number of saved states that are left");
        LuggageTracing z = new LuggageTracing();
        for (int call = 0; call < 7; call++) {
            z.pass(1);
        }
        for (int left = 5; left >= 0; left--) {
            s.due("undo()", z.undo(), left);
        }

        s.promise(29, "NOT_POSSIBLE if no state is saved.");
        s.refused("undo() in a new office", Offices::empty, LuggageTracing::undo, Checks.NOT_POSSIBLE);
        s.refused("undo() after all is undone", () -> {
            LuggageTracing w = Offices.busy();
            Offices.savedStates(w);
            return w;
        }, LuggageTracing::undo, Checks.NOT_POSSIBLE);
    }

    private static long hashOf(List<Long> list) {
        BigInteger hash = BigInteger.valueOf(234);
        for (long v : list) {
            hash = hash.multiply(BigInteger.valueOf(31)).add(BigInteger.valueOf(v));
        }
        return hash.longValue();
    }

    private static List<Long> listOf(LuggageTracing x, int bags, int claims) {
        List<Long> list = new ArrayList<>();
        for (int what = 0; what <= 7; what++) {
            list.add((long) x.count(what));
        }
        for (int bag = 1; bag <= bags; bag++) {
            if (x.bag(bag, 0) != Checks.NO_SUCH) {
                list.add((long) bag);
                for (int what = 0; what <= 7; what++) {
                    list.add((long) x.bag(bag, what));
                }
            }
        }
        for (int claim = 1; claim <= claims; claim++) {
            if (x.claimOf(claim, 0) != Checks.NO_SUCH) {
                list.add((long) claim);
                for (int what = 0; what <= 8; what++) {
                    list.add((long) x.claimOf(claim, what));
                }
                for (int bag = 1; bag <= bags; bag++) {
                    if (x.bag(bag, 0) != Checks.NO_SUCH) {
                        list.add((long) x.score(claim, bag, 0));
                    }
                }
            }
        }
        list.add((long) x.bestTotal());
        list.add((long) x.totalOfAll());
        return list;
    }

    private void digestsArithmetic() {
        s.promise(30, "The hash starts at 234.");
        s.due("digest() of an empty list of zeros", new LuggageTracing().digest(),
                BigInteger.valueOf(31).pow(10).multiply(BigInteger.valueOf(234)).longValue());

        s.promise(30, "For each value v of the following list, in order, the hash becomes 31 * hash + v, in long "
                + "arithmetic with overflow.");
        LuggageTracing x = Offices.onDay(9999);
        s.due("digest() of the day 9999 alone", x.digest(), hashOf(listOf(x, 0, 0)));
        LuggageTracing y = Offices.withBagsAndClaims(2, 0);
        s.due("digest() beyond the greatest long", y.digest(), hashOf(List.of(0L, 2L, 0L, 0L, 0L, 0L, 0L, 0L,
                1L, 0L, 0L, 0L, 0L, 0L, 0L, 0L, -10006L, 2L, 0L, 0L, 0L, 0L, 0L, 0L, 0L, -10006L, 0L, 0L)));
        s.due("digest() again", y.digest(), y.digest());
        s.leaves("digest()", Offices::busy, LuggageTracing::digest, Offices::busy);
    }

    private void digestsList() {
        s.promise(30, "The list is: count(0) to count(7)");
        LuggageTracing x = Offices.busy();
        x.pass(11);
        x.deliver(3);
        x.giveUp(2);
        x.auction(1);
        s.due("count(7)", x.count(7), 310 + 1900);
        s.due("digest()", x.digest(), hashOf(listOf(x, 3, 4)));
        LuggageTracing empty = Offices.withBagsAndClaims(1, 1);
        empty.match(1, 1);
        empty.pass(5);
        empty.deliver(1);
        s.due("digest() of counts alone", empty.digest(), hashOf(List.of(5L, 0L, 0L, 0L, 1L, 0L, 0L, 1L, 0L, 0L)));

        s.promise(30, "for each bag, by ascending numbers, its number and its numbers 0 to 7");
        LuggageTracing bags = new LuggageTracing();
        for (int bag = 1; bag <= 12; bag++) {
            bags.found(bag % 8, 111111 * (bag % 10), bag, 7 - bag % 8, 12 - bag, 20 * bag);
        }
        s.due("digest() of twelve bags", bags.digest(), hashOf(listOf(bags, 12, 0)));
        bags.pass(90);
        bags.auction(5);
        Offices.bag(bags);
        s.due("digest() of the bags 1 to 4 and 6 to 13", bags.digest(), hashOf(listOf(bags, 13, 0)));

        s.promise(30, "for each claim, by ascending numbers, its number and its numbers 0 to 8, and score(.., 0) for all "
                + "bags by ascending numbers");
        LuggageTracing y = Offices.full();
        s.due("digest() of a full office", y.digest(), hashOf(listOf(y, 12, 10)));
        LuggageTracing claims = new LuggageTracing();
        for (int claim = 1; claim <= 10; claim++) {
            claims.claim(claim * 99999, claim % 8, 12 - claim, 25 * claim, 1 << claim % 8, claim * 999, 2 * claim,
                    3 * claim);
        }
        s.due("digest() of ten claims without bags", claims.digest(), hashOf(listOf(claims, 0, 10)));
        LuggageTracing busy = Offices.busy();
        s.due("score(3, 1, 0) in a busy office", busy.score(3, 1, 0), Checks.NONE);
        s.due("digest() with a pair without a score", busy.digest(), hashOf(listOf(busy, 3, 4)));
        busy.giveUp(1);
        s.due("digest() of the claims 2 to 4", busy.digest(), hashOf(listOf(busy, 3, 4)));

        s.promise(30, "bestTotal(); totalOfAll().");
        LuggageTracing z = new LuggageTracing();
        Offices.weights(z, 0, 0, 0, 0, 50, 0);
        z.setThreshold(0);
        z.found(0, 0, 0, 0, 0, 0);
        z.found(1, 0, 0, 0, 0, 0);
        z.claim(0, 0, 0, 0, 3, 1, 0, 0);
        z.claim(0, 0, 0, 0, 1, 1, 0, 0);
        s.due("digest() when they differ", z.digest(), hashOf(List.of(0L, 2L, 2L, 0L, 0L, 0L, 0L, 0L,
                1L, 0L, 0L, 0L, 0L, 0L, 0L, 0L, -10006L, 2L, 1L, 0L, 0L, 0L, 0L, 0L, 0L, -10006L,
                1L, 0L, 0L, 0L, 0L, 3L, 1L, 0L, 0L, -10006L, 50L, 50L,
                2L, 0L, 0L, 0L, 0L, 1L, 1L, 0L, 0L, -10006L, 50L, -50L, 100L, 50L)));
    }
}
