/** The sentences of promises 20 to 23 and of the Terms on forecasts. */
final class ForecastBoundaries {
    private static final int[] NO_NUMBERS = {0, -1, Integer.MIN_VALUE, Integer.MAX_VALUE};

    private final Sentences s;

    ForecastBoundaries(Sentences s) {
        this.s = s;
    }

    void run() {
        changeNothing();
        bestTotal();
        bestTotalOfFew();
        totalOfAll();
        thresholdFor();
        ifEnded();
        ifEndedRefuses();
    }

    private void changeNothing() {
        String sentence = "---- forecasts; they change nothing.";
        s.terms(20, sentence);
        s.due("bestTotal()", Offices.full().bestTotal(), 9 * 85);
        s.leaves("bestTotal()", Offices::full, LuggageTracing::bestTotal, Offices::full);
        s.leaves("bestTotal()", Offices::busy, LuggageTracing::bestTotal, Offices::busy);
        s.terms(21, sentence);
        s.due("totalOfAll()", Offices.full().totalOfAll(), 9 * 85);
        s.leaves("totalOfAll()", Offices::full, LuggageTracing::totalOfAll, Offices::full);
        s.leaves("totalOfAll()", Offices::busy, LuggageTracing::totalOfAll, Offices::busy);
        s.terms(22, sentence);
        s.due("thresholdFor(1, 1)", Offices.full().thresholdFor(1, 1), 85);
        s.leaves("thresholdFor(1, 1)", Offices::full, x -> x.thresholdFor(1, 1), Offices::full);
        s.leaves("thresholdFor(3, 1)", Offices::busy, x -> x.thresholdFor(3, 1), Offices::busy);
        s.terms(23, sentence);
        s.due("ifEnded(3, 400, 0)", Offices.busy().ifEnded(3, 400, 0), 310);
        s.leaves("ifEnded(3, 400, 0)", Offices::busy, x -> x.ifEnded(3, 400, 0), Offices::busy);
        s.leaves("ifEnded(2, 400, 1)", Offices::busy, x -> x.ifEnded(2, 400, 1), Offices::busy);
    }

    private void bestTotal() {
        s.promise(20, "Returns the greatest sum of scores that matches of free claims with free bags could have");
        LuggageTracing x = airportsAlone();
        x.found(0, 0, 0, 0, 0, 0);
        x.found(1, 0, 0, 0, 0, 0);
        x.claim(0, 0, 0, 0, 3, 1, 0, 0);
        x.claim(0, 0, 0, 0, 1, 1, 0, 0);
        s.due("bestTotal() when the first claim leaves its first bag to the second", x.bestTotal(), 100);
        s.due("totalOfAll(), which is less", x.totalOfAll(), 50);
        x.match(1, 1);
        s.due("bestTotal() when the first claim is matched", x.bestTotal(), 0);
        x.unmatch(1);
        x.match(2, 1);
        s.due("bestTotal() when the second claim is matched", x.bestTotal(), 50);
        LuggageTracing y = new LuggageTracing();
        y.claim(0, 0, 0, 15, 1, 1, 0, 0);
        y.claim(0, 0, 0, 7, 1, 1, 0, 0);
        y.found(0, 0, 0, 0, 0, 15);
        y.found(0, 0, 63, 0, 0, 7);
        s.due("score(1, 1, 0)", y.score(1, 1, 0), 105);
        s.due("score(1, 2, 0)", y.score(1, 2, 0), 50);
        s.due("score(2, 1, 0)", y.score(2, 1, 0), 98);
        s.due("score(2, 2, 0)", y.score(2, 2, 0), 52);
        s.due("bestTotal() of two sums, 157 and 148", y.bestTotal(), 157);
        y.setThreshold(99);
        s.due("bestTotal() of one likely pair", y.bestTotal(), 105);
        LuggageTracing z = Offices.withBagsAndClaims(12, 10);
        Offices.weights(z, 50, 50, 50, 50, 50, 50);
        z.setThreshold(200);
        s.due("bestTotal() of a full office with great weights", z.bestTotal(), 10 * 450);
        for (int number = 0; number < Trying.OFFICES; number++) {
            LuggageTracing tried = Trying.office(number);
            for (int change = 1; change <= 3; change++) {
                int best = Trying.bestSum(Trying.likely(tried, number));
                s.due("bestTotal() of the full office " + number + ", change " + change, tried.bestTotal(), best);
                s.due("bestTotal() of the full office " + number + " again", tried.bestTotal(), best);
                tried.setWeight(change, 17 * change % 19 + number % 7);
            }
        }

        s.promise(20, "each of them likely");
        LuggageTracing w = Offices.pair();
        w.setThreshold(85);
        s.due("bestTotal() when the threshold is the score", w.bestTotal(), 85);
        w.setThreshold(86);
        s.due("bestTotal() when the threshold is the score and 1", w.bestTotal(), 0);
        LuggageTracing v = airportsAlone();
        v.claim(0, 0, 0, 0, 2, 1, 0, 0);
        Offices.bag(v);
        s.due("score(1, 1, 0)", v.score(1, 1, 0), -50);
        s.due("bestTotal() of a negative score", v.bestTotal(), 0);
        v.pass(1);
        v.claim(0, 0, 0, 0, 1, 1, 0, 0);
        s.due("bestTotal() of a bag found a day before the flight", v.bestTotal(), 0);
        v.claim(0, 0, 0, 0, 1, 1, 0, 1);
        s.due("bestTotal() of a bag found on the day of the flight", v.bestTotal(), 50);
    }

    private void bestTotalOfFew() {
        s.promise(20, "each claim and each bag in at most one of them.");
        int[][] bagsClaimsPairs = {{1, 2, 1}, {2, 1, 1}, {1, 10, 1}, {12, 1, 1}, {9, 10, 9}, {10, 10, 10},
            {12, 10, 10}, {11, 3, 3}};
        for (int[] b : bagsClaimsPairs) {
            s.due("bestTotal() of " + b[0] + " bags and " + b[1] + " claims",
                    Offices.withBagsAndClaims(b[0], b[1]).bestTotal(), 85 * b[2]);
        }
        s.due("bestTotal() besides a match", Offices.full().bestTotal(), 85 * 9);

        s.promise(20, "0 without any.");
        s.due("bestTotal() of an empty office", new LuggageTracing().bestTotal(), 0);
        s.due("bestTotal() without bags", Offices.withBagsAndClaims(0, 10).bestTotal(), 0);
        s.due("bestTotal() without claims", Offices.withBagsAndClaims(12, 0).bestTotal(), 0);
        s.due("bestTotal() without free ones", Offices.matchedPair().bestTotal(), 0);
        s.due("bestTotal() without likely ones", Offices.pairOfUnlikely().bestTotal(), 0);
        s.due("bestTotal() of a claim and a bag that are gone", withAirportWeight(Offices.leftEmpty()).bestTotal(), 0);
        s.due("bestTotal() of a claim that is gone", withAirportWeight(Offices.leftWithABag()).bestTotal(), 0);
        s.due("bestTotal() of a bag that is gone", withAirportWeight(Offices.leftWithAClaim()).bestTotal(), 0);
        LuggageTracing x = Offices.withBagsAndClaims(12, 10);
        x.matchAll();
        s.due("bestTotal() after matchAll()", x.bestTotal(), 0);
    }

    /** With the weight of the airport alone a score is 50 if the airport is in the route, otherwise -50. */
    private static LuggageTracing airportsAlone() {
        LuggageTracing x = new LuggageTracing();
        Offices.weights(x, 0, 0, 0, 0, 50, 0);
        x.setThreshold(0);
        return x;
    }

    // Without a weight all scores are 0, and a sum with a claim or a bag that is gone would not show.
    private static LuggageTracing withAirportWeight(LuggageTracing x) {
        x.setWeight(4, 50);
        return x;
    }

    private void totalOfAll() {
        s.promise(21, "Tells the sum of the scores of the matches that matchAll() would make.");
        LuggageTracing x = Offices.busy();
        int total = x.totalOfAll();
        s.due("matchAll()", x.matchAll(), 1);
        int claim = x.claimOf(4, 8) == Checks.NONE ? 2 : 4;
        s.due("totalOfAll() and the score of the match that is made", total, x.score(claim, x.claimOf(claim, 8), 0));
        LuggageTracing y = airportsAlone();
        y.found(0, 0, 0, 0, 0, 0);
        y.found(1, 0, 0, 0, 0, 0);
        y.claim(0, 0, 0, 0, 3, 1, 0, 0);
        y.claim(0, 0, 0, 0, 1, 1, 0, 0);
        s.due("totalOfAll(), less than bestTotal()", y.totalOfAll(), 50);
        y.match(2, 1);
        s.due("totalOfAll() of the free ones", y.totalOfAll(), 50);
        LuggageTracing z = Offices.withBagsAndClaims(2, 2);
        z.setThreshold(85);
        s.due("totalOfAll() when the threshold is the score", z.totalOfAll(), 170);
        z.setThreshold(86);
        s.due("totalOfAll() when the threshold is the score and 1", z.totalOfAll(), 0);
        s.due("totalOfAll() of a full office", Offices.withBagsAndClaims(12, 10).totalOfAll(), 850);
        for (int number = 0; number < Trying.OFFICES; number++) {
            LuggageTracing tried = Trying.office(number);
            int[][] likely = Trying.likely(tried, number);
            s.due("totalOfAll() of the full office " + number, tried.totalOfAll(),
                    Trying.sumOf(likely, Trying.greatestFirst(likely)));
        }

        s.promise(21, "0 without any.");
        s.due("totalOfAll() of an empty office", new LuggageTracing().totalOfAll(), 0);
        s.due("totalOfAll() without bags", Offices.withBagsAndClaims(0, 10).totalOfAll(), 0);
        s.due("totalOfAll() without claims", Offices.withBagsAndClaims(12, 0).totalOfAll(), 0);
        s.due("totalOfAll() without free ones", Offices.matchedPair().totalOfAll(), 0);
        s.due("totalOfAll() without likely ones", Offices.pairOfUnlikely().totalOfAll(), 0);
        s.due("totalOfAll() of a claim and a bag that are gone", withAirportWeight(Offices.leftEmpty()).totalOfAll(), 0);
        s.due("totalOfAll() of a claim that is gone", withAirportWeight(Offices.leftWithABag()).totalOfAll(), 0);
        s.due("totalOfAll() of a bag that is gone", withAirportWeight(Offices.leftWithAClaim()).totalOfAll(), 0);
    }

    private void thresholdFor() {
        s.promise(22, "Finds the greatest threshold, 0 to 200, with which a claim and a bag would be likely.");
        int[][] digitColourDue = {{0, 0, 0}, {0, 1, 1}, {6, 4, 40}, {33, 0, 198}, {33, 1, 199}, {33, 2, 200},
            {33, 3, 200}, {50, 50, 200}};
        for (int[] d : digitColourDue) {
            LuggageTracing x = Offices.pair();
            Offices.weights(x, d[0], d[1], 0, 0, 0, 0);
            s.due("thresholdFor(1, 1) of the score " + (6 * d[0] + d[1]), x.thresholdFor(1, 1), d[2]);
            x.setThreshold(d[2]);
            s.due("suggest(1, 0) with this threshold", x.suggest(1, 0), 1);
            s.due("thresholdFor(1, 1) with this threshold", x.thresholdFor(1, 1), d[2]);
            if (d[2] < 200) {
                x.setThreshold(d[2] + 1);
                s.due("suggest(1, 0) with this threshold and 1", x.suggest(1, 0), Checks.NO_SUCH);
                s.due("thresholdFor(1, 1) with this threshold and 1", x.thresholdFor(1, 1), d[2]);
            }
        }
        s.due("thresholdFor(1, 1) of a matched pair", Offices.matchedPair().thresholdFor(1, 1), 85);

        s.promise(22, "NO_SUCH if there is no such claim or bag");
        for (int none : NO_NUMBERS) {
            s.refused("thresholdFor(" + none + ", 1)", Offices::busy, x -> x.thresholdFor(none, 1), Checks.NO_SUCH);
            s.refused("thresholdFor(1, " + none + ")", Offices::busy, x -> x.thresholdFor(1, none), Checks.NO_SUCH);
        }
        s.refused("thresholdFor(5, 1) with four claims", Offices::busy, x -> x.thresholdFor(5, 1), Checks.NO_SUCH);
        s.refused("thresholdFor(1, 4) with three bags", Offices::busy, x -> x.thresholdFor(1, 4), Checks.NO_SUCH);
        s.refused("thresholdFor(1, 1) without claims", () -> Offices.withBagsAndClaims(1, 0),
                x -> x.thresholdFor(1, 1), Checks.NO_SUCH);
        s.refused("thresholdFor(1, 1) without bags", () -> Offices.withBagsAndClaims(0, 1),
                x -> x.thresholdFor(1, 1), Checks.NO_SUCH);

        s.promise(22, "NONE if they would never be likely.");
        LuggageTracing y = new LuggageTracing();
        Offices.weights(y, 0, 0, 0, 0, 0, 1);
        y.claim(0, 0, 0, 0, 1, 1, 0, 1);
        y.claim(0, 0, 0, 0, 1, 1, 0, 0);
        y.claim(0, 0, 0, 0, 1, 1, 0, 30);
        Offices.bag(y);
        s.due("thresholdFor(1, 1) of the score -1", y.thresholdFor(1, 1), Checks.NONE);
        s.due("thresholdFor(2, 1) of the score 0", y.thresholdFor(2, 1), 0);
        s.due("thresholdFor(3, 1) of the score -10", y.thresholdFor(3, 1), Checks.NONE);
        y.pass(1);
        Offices.claim(y);
        s.due("thresholdFor(4, 1) of a bag found a day before the flight", y.thresholdFor(4, 1), Checks.NONE);
    }

    private void ifEnded() {
        s.promise(23, "Tells what would be paid if a claim was delivered, or was given up, after some days.");
        LuggageTracing x = new LuggageTracing();
        x.claim(0, 0, 0, 0, 1, 4000, 4, 2);
        x.claim(0, 0, 0, 0, 1, 239, 20, 0);
        int[][] daysFirstSecond = {{0, 60, 0}, {1, 90, 30}, {7, 270, 210}, {8, 300, 239}, {9, 300, 239},
            {10, 300, 239}, {11, 300, 239}, {400, 300, 239}};
        for (int[] d : daysFirstSecond) {
            s.due("ifEnded(1, " + d[0] + ", 0)", x.ifEnded(1, d[0], 0), d[1]);
            s.due("ifEnded(2, " + d[0] + ", 0)", x.ifEnded(2, d[0], 0), d[2]);
            s.due("ifEnded(1, " + d[0] + ", 1)", x.ifEnded(1, d[0], 1), 2000);
            s.due("ifEnded(2, " + d[0] + ", 1)", x.ifEnded(2, d[0], 1), 47);
        }
        x.pass(7);
        s.due("ifEnded(1, 0, 0) when 7 days have passed", x.ifEnded(1, 0, 0), 270);
        s.due("ifEnded(1, 1, 0) when 7 days have passed", x.ifEnded(1, 1, 0), 300);
        Offices.bag(x);
        x.match(2, 1);
        x.pass(1);
        int forecast = x.ifEnded(2, 0, 0);
        s.due("deliver(2) and its forecast", x.deliver(2), forecast);
        x.pass(20);
        forecast = x.ifEnded(1, 0, 1);
        s.due("giveUp(1) and its forecast", x.giveUp(1), forecast);

        s.promise(23, "- `days`: 0 to 400");
        s.range("ifEnded(1, #, 0)", Offices::busy, (y, v) -> y.ifEnded(1, v, 0), 0, 400, Checks.BAD_VALUE);
        s.range("ifEnded(1, #, 1)", Offices::busy, (y, v) -> y.ifEnded(1, v, 1), 0, 400, Checks.BAD_VALUE);
        LuggageTracing z = Offices.onDay(9999);
        z.setMoney(500, 0);
        z.claim(0, 0, 0, 0, 1, 99999, 0, 0);
        s.due("ifEnded(1, 9, 0) on the last day", z.ifEnded(1, 9, 0), 4500);
        s.due("ifEnded(1, 400, 0) on the last day", z.ifEnded(1, 400, 0), 5000);

        s.promise(23, "- `what`: 0 for a delivery, 1 for giving up");
        LuggageTracing w = new LuggageTracing();
        w.claim(0, 0, 0, 0, 1, 1000, 3, 4);
        s.due("ifEnded(1, 0, 0)", w.ifEnded(1, 0, 0), 120);
        s.due("ifEnded(1, 0, 1)", w.ifEnded(1, 0, 1), 700);
    }

    private void ifEndedRefuses() {
        s.promise(23, "Returns the amount, whether this is possible or not");
        LuggageTracing x = Offices.withBagsAndClaims(0, 1);
        s.due("deliver(1) of a free claim", x.deliver(1), Checks.NOT_POSSIBLE);
        s.due("ifEnded(1, 0, 0) of a free claim", x.ifEnded(1, 0, 0), 0);
        s.due("ifEnded(1, 1, 0) of a free claim", x.ifEnded(1, 1, 0), 1);
        s.due("giveUp(1) on the day of the flight", x.giveUp(1), Checks.NOT_POSSIBLE);
        s.due("ifEnded(1, 0, 1) on the day of the flight", x.ifEnded(1, 0, 1), 1);
        s.due("ifEnded(1, 20, 1), too few days later", x.ifEnded(1, 20, 1), 1);
        s.due("ifEnded(1, 21, 1)", x.ifEnded(1, 21, 1), 1);
        LuggageTracing y = Offices.matchedPair();
        y.pass(21);
        s.due("giveUp(1) of a matched claim", y.giveUp(1), Checks.NOT_POSSIBLE);
        s.due("ifEnded(1, 0, 1) of a matched claim", y.ifEnded(1, 0, 1), 1);
        s.due("ifEnded(1, 0, 0) of a matched claim", y.ifEnded(1, 0, 0), 1);

        s.promise(23, "NO_SUCH if there is no such claim");
        for (int none : NO_NUMBERS) {
            s.refused("ifEnded(" + none + ", 0, 0)", Offices::busy, z -> z.ifEnded(none, 0, 0), Checks.NO_SUCH);
            s.refused("ifEnded(" + none + ", 400, 1)", Offices::busy, z -> z.ifEnded(none, 400, 1), Checks.NO_SUCH);
        }
        s.refused("ifEnded(5, 0, 0) with four claims", Offices::busy, z -> z.ifEnded(5, 0, 0), Checks.NO_SUCH);
        s.refused("ifEnded(11, 0, 1) with ten claims", Offices::full, z -> z.ifEnded(11, 0, 1), Checks.NO_SUCH);
        s.refused("ifEnded(1, 0, 0) without claims", Offices::empty, z -> z.ifEnded(1, 0, 0), Checks.NO_SUCH);

        s.promise(23, "BAD_VALUE if days is out of range");
        s.refused("ifEnded(1, -1, 0)", Offices::busy, z -> z.ifEnded(1, -1, 0), Checks.BAD_VALUE);
        s.refused("ifEnded(1, 401, 0)", Offices::busy, z -> z.ifEnded(1, 401, 0), Checks.BAD_VALUE);
        s.refused("ifEnded(1, -1, 1)", Offices::busy, z -> z.ifEnded(1, -1, 1), Checks.BAD_VALUE);
        s.refused("ifEnded(1, 401, 1)", Offices::busy, z -> z.ifEnded(1, 401, 1), Checks.BAD_VALUE);

        s.promise(23, "or if what is neither 0 nor 1.");
        s.range("ifEnded(1, 0, #)", Offices::busy, (z, v) -> z.ifEnded(1, 0, v), 0, 1, Checks.BAD_VALUE);
        s.range("ifEnded(3, 400, #)", Offices::busy, (z, v) -> z.ifEnded(3, 400, v), 0, 1, Checks.BAD_VALUE);
    }
}
