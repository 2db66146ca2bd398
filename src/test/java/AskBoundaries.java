import java.util.function.Supplier;

/** The sentences of promises 14 to 19: what can be asked about the office, its bags and its claims. */
final class AskBoundaries {
    private static final int[] NO_NUMBERS = {0, -1, Integer.MIN_VALUE, Integer.MAX_VALUE};

    private final Sentences s;

    AskBoundaries(Sentences s) {
        this.s = s;
    }

    void run() {
        count();
        bag();
        claimOf();
        score();
        suggest();
        suggestRefuses();
        sameDigits();
    }

    private void count() {
        s.promise(14, "- `what`: 0 for the current day");
        s.due("count(0) in a new office", new LuggageTracing().count(0), 0);
        s.due("count(0) on the last day", Offices.onDay(9999).count(0), 9999);

        s.promise(14, "1 for the number of bags");
        s.due("count(1) in a new office", new LuggageTracing().count(1), 0);
        s.due("count(1) of a full office", Offices.full().count(1), 12);

        s.promise(14, "2 for the number of claims");
        s.due("count(2) in a new office", new LuggageTracing().count(2), 0);
        s.due("count(2) of a full office", Offices.full().count(2), 10);

        s.promise(14, "3 for the number of matches");
        LuggageTracing x = Offices.withBagsAndClaims(12, 10);
        s.due("count(3) without a match", x.count(3), 0);
        x.matchAll();
        s.due("count(3) of as many as can be", x.count(3), 10);
        x.unmatch(10);
        s.due("count(3) after unmatch", x.count(3), 9);
        x.deliver(9);
        s.due("count(3) after a delivery", x.count(3), 8);

        s.promise(14, "4 for the number of deliveries so far");
        s.due("count(4) before any", new LuggageTracing().count(4), 0);
        for (int claim = 1; claim <= 8; claim++) {
            x.deliver(claim);
        }
        s.due("count(4) after nine", x.count(4), 9);
        x.undo();
        s.due("count(4) after undo()", x.count(4), 8);

        s.promise(14, "5 for the number of claims that were given up so far");
        LuggageTracing y = Offices.withBagsAndClaims(12, 10);
        s.due("count(5) before any", y.count(5), 0);
        y.pass(90);
        for (int claim = 1; claim <= 10; claim++) {
            y.giveUp(claim);
        }
        s.due("count(5) after ten", y.count(5), 10);
        s.due("count(2) after ten", y.count(2), 0);

        s.promise(14, "6 for the number of bags sold at auctions so far");
        s.due("count(6) before any", y.count(6), 0);
        for (int bag = 1; bag <= 12; bag++) {
            y.auction(bag);
        }
        s.due("count(6) after twelve", y.count(6), 12);
        s.due("count(1) after twelve", y.count(1), 0);

        s.promise(14, "7 for all that was paid so far");
        LuggageTracing z = Offices.busy();
        s.due("count(7) before any", z.count(7), 0);
        z.pass(5);
        z.deliver(3);
        s.due("count(7) after a delivery", z.count(7), 155);
        z.giveUp(2);
        s.due("count(7) after a claim that is given up", z.count(7), 2055);
        z.auction(1);
        s.due("count(7) after an auction", z.count(7), 2055);
        z.undo();
        z.undo();
        s.due("count(7) after undo()", z.count(7), 155);

        s.promise(14, "BAD_VALUE if what is out of range.");
        s.range("count(#)", Offices::busy, LuggageTracing::count, 0, 7, Checks.BAD_VALUE);
    }

    private void bag() {
        s.promise(15, "- `what`: 0 for its airport, 1 for its tag, 2 for its illegible places, 3 for its colour, "
                + "4 for its kind, 5 for its marks, 6 for the day on which it was found");
        LuggageTracing x = Offices.busy();
        int[] due = {3, 120450, 36, 6, 3, 133, 0};
        for (int what = 0; what <= 6; what++) {
            s.due("bag(1, " + what + ")", x.bag(1, what), due[what]);
        }
        s.due("bag(3, 6)", x.bag(3, 6), 100);

        s.promise(15, "7 for the number of the claim with which it is matched (NONE if it is free)");
        s.due("bag(3, 7) of a matched bag", x.bag(3, 7), 3);
        s.due("bag(1, 7) of a free bag", x.bag(1, 7), Checks.NONE);
        x.unmatch(3);
        s.due("bag(3, 7) of a bag that is free again", x.bag(3, 7), Checks.NONE);
        x.match(1, 3);
        s.due("bag(3, 7) of a bag with another match", x.bag(3, 7), 1);

        s.promise(15, "NO_SUCH if there is no such bag");
        for (int none : NO_NUMBERS) {
            s.refused("bag(" + none + ", 0)", Offices::busy, y -> y.bag(none, 0), Checks.NO_SUCH);
        }
        s.refused("bag(4, 0) with three bags", Offices::busy, y -> y.bag(4, 0), Checks.NO_SUCH);
        s.refused("bag(13, 7) with twelve bags", Offices::full, y -> y.bag(13, 7), Checks.NO_SUCH);
        s.refused("bag(1, 0) in an empty office", Offices::empty, y -> y.bag(1, 0), Checks.NO_SUCH);

        s.promise(15, "BAD_VALUE if what is out of range.");
        s.range("bag(1, #)", Offices::full, (y, v) -> y.bag(1, v), 0, 7, Checks.BAD_VALUE);
        s.range("bag(12, #)", Offices::full, (y, v) -> y.bag(12, v), 0, 7, Checks.BAD_VALUE);
    }

    private void claimOf() {
        s.promise(16, "- `what`: 0 for its tag, 1 for its colour, 2 for its kind, 3 for its marks, 4 for its route, "
                + "5 for its worth, 6 for its age, 7 for the day of the flight");
        LuggageTracing x = Offices.busy();
        int[] due = {999999, 7, 11, 255, 255, 1, 20, -30};
        for (int what = 0; what <= 7; what++) {
            s.due("claimOf(1, " + what + ")", x.claimOf(1, what), due[what]);
        }

        s.promise(16, "8 for the number of the bag with which it is matched (NONE if it is free)");
        s.due("claimOf(3, 8) of a matched claim", x.claimOf(3, 8), 3);
        s.due("claimOf(1, 8) of a free claim", x.claimOf(1, 8), Checks.NONE);
        x.unmatch(3);
        s.due("claimOf(3, 8) of a claim that is free again", x.claimOf(3, 8), Checks.NONE);
        x.match(3, 2);
        s.due("claimOf(3, 8) of a claim with another match", x.claimOf(3, 8), 2);

        s.promise(16, "NO_SUCH if there is no such claim");
        for (int none : NO_NUMBERS) {
            s.refused("claimOf(" + none + ", 0)", Offices::busy, y -> y.claimOf(none, 0), Checks.NO_SUCH);
        }
        s.refused("claimOf(5, 0) with four claims", Offices::busy, y -> y.claimOf(5, 0), Checks.NO_SUCH);
        s.refused("claimOf(11, 8) with ten claims", Offices::full, y -> y.claimOf(11, 8), Checks.NO_SUCH);
        s.refused("claimOf(1, 0) in an empty office", Offices::empty, y -> y.claimOf(1, 0), Checks.NO_SUCH);

        s.promise(16, "BAD_VALUE if what is out of range.");
        s.range("claimOf(1, #)", Offices::full, (y, v) -> y.claimOf(1, v), 0, 8, Checks.BAD_VALUE);
        s.range("claimOf(10, #)", Offices::full, (y, v) -> y.claimOf(10, v), 0, 8, Checks.BAD_VALUE);
    }

    private void score() {
        s.promise(17, "- `part`: 0 for the whole score, 1 to 6 for its six parts in the order told");
        LuggageTracing x = new LuggageTracing();
        x.claim(123456, 2, 6, 7, 12, 1, 0, 4);
        x.found(3, 123956, 1, 3, 4, 21);
        int[] due = {44, 20, 3, 4, 6, 15, -4};
        for (int part = 0; part <= 6; part++) {
            s.due("score(1, 1, " + part + ")", x.score(1, 1, part), due[part]);
        }
        s.range("score(1, 1, #)", Offices::pair, (y, v) -> y.score(1, 1, v), 0, 6, Checks.BAD_VALUE);
        s.due("score(1, 1, 0) of a matched pair", Offices.matchedPair().score(1, 1, 0), 85);

        s.promise(17, "NO_SUCH if there is no such claim or bag");
        for (int none : NO_NUMBERS) {
            s.refused("score(" + none + ", 1, 0)", Offices::busy, y -> y.score(none, 1, 0), Checks.NO_SUCH);
            s.refused("score(1, " + none + ", 6)", Offices::busy, y -> y.score(1, none, 6), Checks.NO_SUCH);
        }
        s.refused("score(5, 1, 0) with four claims", Offices::busy, y -> y.score(5, 1, 0), Checks.NO_SUCH);
        s.refused("score(1, 4, 0) with three bags", Offices::busy, y -> y.score(1, 4, 0), Checks.NO_SUCH);
        s.refused("score(1, 1, 0) without claims", () -> Offices.withBagsAndClaims(1, 0), y -> y.score(1, 1, 0),
                Checks.NO_SUCH);
        s.refused("score(1, 1, 0) without bags", () -> Offices.withBagsAndClaims(0, 1), y -> y.score(1, 1, 0),
                Checks.NO_SUCH);

        s.promise(17, "BAD_VALUE if part is out of range");
        s.refused("score(1, 1, -1)", Offices::busy, y -> y.score(1, 1, -1), Checks.BAD_VALUE);
        s.refused("score(1, 1, 7)", Offices::busy, y -> y.score(1, 1, 7), Checks.BAD_VALUE);

        s.promise(17, "NONE if they have no score.");
        LuggageTracing z = Offices.onDay(5);
        Offices.bag(z);
        z.pass(1);
        Offices.claim(z);
        z.claim(0, 0, 0, 0, 1, 1, 0, 1);
        for (int part = 0; part <= 6; part++) {
            s.due("score(1, 1, " + part + ") of a bag found a day before the flight", z.score(1, 1, part),
                    Checks.NONE);
        }
        s.due("score(2, 1, 0) of a bag found on the day of the flight", z.score(2, 1, 0), 85);
        s.due("score(2, 1, 6) of a bag found on the day of the flight", z.score(2, 1, 6), 0);
        s.leaves("score(1, 1, 0) without a score", Offices::busy, y -> y.score(3, 1, 0), Offices::busy);
    }

    private void suggest() {
        s.promise(18, "of the free bags that are likely for it");
        LuggageTracing x = Offices.withBagsAndClaims(3, 2);
        x.match(2, 1);
        s.due("suggest(1, 0) when the first bag is matched", x.suggest(1, 0), 2);
        s.due("suggest(1, 1) when the first bag is matched", x.suggest(1, 1), 3);
        s.due("suggest(1, 2) when the first bag is matched", x.suggest(1, 2), Checks.NO_SUCH);
        s.due("suggest(2, 0): its own bag is not free", x.suggest(2, 0), 2);
        x.unmatch(2);
        s.due("suggest(1, 0) when the first bag is free again", x.suggest(1, 0), 1);
        x.setThreshold(85);
        s.due("suggest(1, 2) when the threshold is the score", x.suggest(1, 2), 3);
        x.setThreshold(86);
        s.due("suggest(1, 0) when the threshold is the score and 1", x.suggest(1, 0), Checks.NO_SUCH);
        LuggageTracing y = new LuggageTracing();
        Offices.bag(y);
        y.pass(1);
        Offices.claim(y);
        y.setThreshold(0);
        s.due("suggest(1, 0) of a bag found a day before the flight", y.suggest(1, 0), Checks.NO_SUCH);
        Offices.bag(y);
        s.due("suggest(1, 0) of a bag found on the day of the flight", y.suggest(1, 0), 2);

        s.promise(18, "the greatest score first");
        LuggageTracing z = new LuggageTracing();
        z.claim(0, 0, 0, 0, 255, 1, 0, 30);
        int[] illegible = {31, 15, 7, 3, 1, 0, 1, 3, 7, 15, 31, 0};
        for (int places : illegible) {
            z.found(0, 0, places, 0, 0, 0);
        }
        z.setThreshold(0);
        int[] due = {6, 12, 5, 7, 4, 8, 3, 9, 2, 10, 1, 11};
        for (int rank = 0; rank < 12; rank++) {
            s.due("suggest(1, " + rank + ")", z.suggest(1, rank), due[rank]);
        }
        LuggageTracing w = new LuggageTracing();
        w.setWeight(3, 1);
        w.claim(0, 0, 0, 1, 1, 1, 0, 0);
        Offices.bag(w);
        w.found(0, 0, 0, 0, 0, 1);
        s.due("suggest(1, 0) of scores that differ by 1", w.suggest(1, 0), 2);
        s.due("suggest(1, 1) of scores that differ by 1", w.suggest(1, 1), 1);

        s.promise(18, "of several the lowest number.");
        LuggageTracing v = Offices.withBagsAndClaims(12, 1);
        for (int rank = 0; rank < 12; rank++) {
            s.due("suggest(1, " + rank + ") of twelve equal bags", v.suggest(1, rank), rank + 1);
        }
        v.pass(90);
        v.auction(1);
        v.found(0, 0, 0, 0, 0, 0);
        s.due("suggest(1, 0) when the first bag is sold", v.suggest(1, 0), 2);
        s.due("suggest(1, 11) of the 13th bag", v.suggest(1, 11), 13);
    }

    private void suggestRefuses() {
        s.promise(18, "- `rank`: 0 for the first bag");
        LuggageTracing x = Offices.withBagsAndClaims(2, 1);
        s.due("suggest(1, 0)", x.suggest(1, 0), 1);
        s.due("suggest(1, 1)", x.suggest(1, 1), 2);
        s.refused("suggest(1, -1)", () -> Offices.withBagsAndClaims(2, 1), y -> y.suggest(1, -1), Checks.NO_SUCH);

        s.promise(18, "Returns the number of the bag");
        s.due("suggest(1, 0) of the numbers after 12", suggestedAfterTwelve(), 13);

        s.promise(18, "NO_SUCH if there is no such claim");
        for (int none : NO_NUMBERS) {
            s.refused("suggest(" + none + ", 0)", Offices::busy, y -> y.suggest(none, 0), Checks.NO_SUCH);
        }
        s.refused("suggest(5, 0) with four claims", Offices::busy, y -> y.suggest(5, 0), Checks.NO_SUCH);
        s.refused("suggest(11, 0) with ten claims", Offices::full, y -> y.suggest(11, 0), Checks.NO_SUCH);
        s.refused("suggest(1, 0) without claims", () -> Offices.withBagsAndClaims(1, 0), y -> y.suggest(1, 0),
                Checks.NO_SUCH);
        s.refused("suggest(1, 0) of a claim that is gone", Offices::leftWithABag, y -> y.suggest(1, 0), Checks.NO_SUCH);
        for (int none : new int[] {0, -1, 1}) {
            s.refused("suggest(" + none + ", 0) without claims, when every score is likely",
                    AskBoundaries::everyScoreIsLikely, y -> y.suggest(none, 0), Checks.NO_SUCH);
        }

        s.promise(18, "or if there are not so many such bags.");
        s.refused("suggest(1, 0) without bags", () -> Offices.withBagsAndClaims(0, 1), y -> y.suggest(1, 0),
                Checks.NO_SUCH);
        s.refused("suggest(1, 1) with one bag", Offices::pair, y -> y.suggest(1, 1), Checks.NO_SUCH);
        s.due("suggest(1, 11) with twelve bags", Offices.withBagsAndClaims(12, 1).suggest(1, 11), 12);
        s.refused("suggest(1, 12) with twelve bags", () -> Offices.withBagsAndClaims(12, 1), y -> y.suggest(1, 12),
                Checks.NO_SUCH);
        s.refused("suggest(2, 0) of a bag that is gone", Offices::leftWithAClaim, y -> y.suggest(2, 0),
                Checks.NO_SUCH);
        Supplier<LuggageTracing> matched = Offices::matchedPair;
        s.refused("suggest(1, 0) when the one bag is matched", matched, y -> y.suggest(1, 0), Checks.NO_SUCH);
        s.refused("suggest(1, max)", Offices::full, y -> y.suggest(1, Integer.MAX_VALUE), Checks.NO_SUCH);
        s.refused("suggest(1, min)", Offices::full, y -> y.suggest(1, Integer.MIN_VALUE), Checks.NO_SUCH);
    }

    private static LuggageTracing everyScoreIsLikely() {
        LuggageTracing x = Offices.withBagsAndClaims(2, 0);
        Offices.weights(x, 0, 0, 0, 0, 0, 0);
        x.setThreshold(0);
        return x;
    }

    private static int suggestedAfterTwelve() {
        LuggageTracing x = Offices.withBagsAndClaims(12, 0);
        x.pass(90);
        x.auction(4);
        Offices.bag(x);
        Offices.claim(x);
        return x.suggest(1, 0);
    }

    private void sameDigits() {
        s.promise(19, "Returns the legible digits that a bag's tag and a claim's tag have in common at the same places.");
        int[][] tagsIllegibleDue = {{123456, 123456, 0, 63}, {123456, 654321, 0, 0}, {123456, 123456, 63, 0},
            {123456, 623451, 0, 30}, {0, 0, 0, 63}, {0, 0, 63, 0}, {0, 999999, 31, 0}, {100000, 999999, 63, 0},
            {999999, 999999, 0, 63}, {123456, 234561, 0, 0}, {0, 999999, 63, 0}, {111111, 111112, 0, 31},
            {111111, 211111, 0, 62}, {111111, 211111, 1, 62}, {111111, 111111, 33, 30}};
        for (int[] t : tagsIllegibleDue) {
            LuggageTracing x = new LuggageTracing();
            x.claim(t[0], 0, 0, 0, 1, 1, 0, 0);
            x.found(0, t[1], t[2], 0, 0, 0);
            s.due("sameDigits(1, 1) of " + t[0] + " and " + t[1] + " with the illegible places " + t[2],
                    x.sameDigits(1, 1), t[3]);
        }

        s.promise(19, "Returns the places as a bit mask");
        for (int place = 0; place < 6; place++) {
            LuggageTracing x = new LuggageTracing();
            int unit = new int[] {100000, 10000, 1000, 100, 10, 1}[place];
            x.claim(111111, 0, 0, 0, 1, 1, 0, 0);
            x.found(0, 222222 - unit, 0, 0, 0, 0);
            x.found(0, 111111, 63 - (1 << place), 0, 0, 0);
            s.due("sameDigits(1, 1) at the place " + place + " alone", x.sameDigits(1, 1), 1 << place);
            s.due("sameDigits(1, 2) when the place " + place + " alone is legible", x.sameDigits(1, 2), 1 << place);
        }

        s.promise(19, "NO_SUCH if there is no such claim or bag.");
        for (int none : NO_NUMBERS) {
            s.refused("sameDigits(" + none + ", 1)", Offices::busy, x -> x.sameDigits(none, 1), Checks.NO_SUCH);
            s.refused("sameDigits(1, " + none + ")", Offices::busy, x -> x.sameDigits(1, none), Checks.NO_SUCH);
        }
        s.refused("sameDigits(5, 1) with four claims", Offices::busy, x -> x.sameDigits(5, 1), Checks.NO_SUCH);
        s.refused("sameDigits(1, 4) with three bags", Offices::busy, x -> x.sameDigits(1, 4), Checks.NO_SUCH);
        s.refused("sameDigits(1, 1) without claims", () -> Offices.withBagsAndClaims(1, 0), x -> x.sameDigits(1, 1),
                Checks.NO_SUCH);
        s.refused("sameDigits(1, 1) without bags", () -> Offices.withBagsAndClaims(0, 1), x -> x.sameDigits(1, 1),
                Checks.NO_SUCH);
        LuggageTracing z = Offices.onDay(5);
        Offices.bag(z);
        z.pass(1);
        Offices.claim(z);
        s.due("sameDigits(1, 1) without a score", z.sameDigits(1, 1), 63);
    }
}
