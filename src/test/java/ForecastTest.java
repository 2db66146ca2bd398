/** Promises 20 to 23: the forecasts. */
public final class ForecastTest {
    private static final Checks c = new Checks("ForecastTest");
    private static final int[] NO_NUMBERS = {0, -1, 99, Integer.MIN_VALUE, Integer.MAX_VALUE};

    public static void main(String[] args) {
        bestTotalBeatsTheGreedyOne();
        bestTotalLeavesOutTheUnlikely();
        bestTotalOfAFullOffice();
        bestTotalMovesAWholeChain();
        bestTotalFindsTheLastBag();
        totalOfAll();
        forecastsChangeNothing();
        thresholdFor();
        ifEnded();
        ifEndedRefuses();
        c.end();
    }

    // Claim 1 has 95 with bag 1 and 81 with bag 2; claim 2 has 88 with bag 1 and 74 with bag 2.
    private static LuggageTracing greedyIsNotBest() {
        LuggageTracing x = new LuggageTracing();
        x.claim(111111, 0, 0, 3, 1, 1, 0, 0);
        x.claim(111111, 1, 0, 3, 1, 1, 0, 0);
        x.found(0, 111111, 0, 0, 0, 3);
        x.found(0, 111111, 0, 0, 0, 0);
        return x;
    }

    private static void bestTotalBeatsTheGreedyOne() {
        LuggageTracing x = greedyIsNotBest();
        c.due("score(1, 1, 0)", x.score(1, 1, 0), 95);
        c.due("score(1, 2, 0)", x.score(1, 2, 0), 81);
        c.due("score(2, 1, 0)", x.score(2, 1, 0), 88);
        c.due("score(2, 2, 0)", x.score(2, 2, 0), 74);
        c.due("bestTotal() of equal sums", x.bestTotal(), 169);
        x.setThreshold(80);
        c.due("bestTotal() when the last pair is unlikely", x.bestTotal(), 169);
        c.due("totalOfAll() when the last pair is unlikely", x.totalOfAll(), 95);
        x.setThreshold(82);
        c.due("bestTotal() when one bag is likely", x.bestTotal(), 95);
        x.setThreshold(96);
        c.due("bestTotal() when none is likely", x.bestTotal(), 0);
        c.due("totalOfAll() when none is likely", x.totalOfAll(), 0);
    }

    private static void bestTotalLeavesOutTheUnlikely() {
        LuggageTracing x = new LuggageTracing();
        c.due("bestTotal() of an empty office", x.bestTotal(), 0);
        x.claim(111111, 0, 0, 0, 1, 1, 0, 0);
        c.due("bestTotal() without bags", x.bestTotal(), 0);
        x.found(1, 999999, 0, 4, 11, 255);
        x.setThreshold(0);
        c.due("bestTotal() of a negative score", x.bestTotal(), 0);
        x.found(0, 111111, 0, 0, 0, 0);
        c.due("bestTotal() of one likely bag", x.bestTotal(), 85);
        x.match(1, 2);
        c.due("bestTotal() when all claims are matched", x.bestTotal(), 0);
        x.claim(111111, 0, 0, 0, 1, 1, 0, 0);
        c.due("bestTotal() when the likely bag is matched", x.bestTotal(), 0);
        x.unmatch(1);
        c.due("bestTotal() of two claims with one bag", x.bestTotal(), 85);
    }

    private static void bestTotalOfAFullOffice() {
        LuggageTracing x = new LuggageTracing();
        x.setThreshold(0);
        x.setWeight(0, 50);
        for (int i = 0; i < 10; i++) {
            x.claim(123456, 0, 0, 0, 1, 1, 0, 0);
        }
        for (int i = 0; i < 12; i++) {
            x.found(0, 123456, (1 << i % 6) - 1, 0, 0, 0);
        }
        int[] legible = {6, 6, 5, 5, 4, 4, 3, 3, 2, 2};
        int due = 0;
        for (int digits : legible) {
            due += 50 * digits + 37;
        }
        c.due("bestTotal() of a full office", x.bestTotal(), due);
        c.due("totalOfAll() of a full office", x.totalOfAll(), due);
        c.due("matchAll()", x.matchAll(), 10);
        c.due("bestTotal() after matchAll()", x.bestTotal(), 0);
    }

    // With the weight of the airport alone, a pair is likely if the airport is in the route, with the score 50.
    private static LuggageTracing airportsAlone() {
        LuggageTracing x = new LuggageTracing();
        for (int weight = 0; weight < 6; weight++) {
            x.setWeight(weight, weight == 4 ? 50 : 0);
        }
        x.setThreshold(0);
        return x;
    }

    private static void bestTotalMovesAWholeChain() {
        LuggageTracing x = airportsAlone();
        for (int airport = 0; airport < 8; airport++) {
            x.found(airport, 0, 0, 0, 0, 0);
        }
        for (int i = 0; i < 7; i++) {
            x.claim(0, 0, 0, 0, 3 << i, 1, 0, 0);
        }
        x.claim(0, 0, 0, 0, 1, 1, 0, 0);
        c.due("bestTotal() of a chain", x.bestTotal(), 400);
        c.due("bestTotal() of a chain once more", x.bestTotal(), 400);
        c.due("totalOfAll() of a chain", x.totalOfAll(), 350);
        x.claim(0, 0, 0, 0, 255, 1, 0, 0);
        c.due("bestTotal() of more claims than bags", x.bestTotal(), 400);
        x.match(1, 1);
        c.due("bestTotal() when the chain has lost its first bag", x.bestTotal(), 350);
        c.due("matchAll()", x.matchAll(), 7);
    }

    private static void bestTotalFindsTheLastBag() {
        LuggageTracing x = airportsAlone();
        for (int i = 0; i < 11; i++) {
            x.found(0, 0, 0, 0, 0, 0);
        }
        x.found(7, 0, 0, 0, 0, 0);
        for (int i = 0; i < 9; i++) {
            x.claim(0, 0, 0, 0, 2, 1, 0, 0);
        }
        c.due("bestTotal() without a likely pair", x.bestTotal(), 0);
        x.claim(0, 0, 0, 0, 128, 1, 0, 0);
        c.due("bestTotal() of the last claim with the last bag", x.bestTotal(), 50);
        c.due("totalOfAll() of the last claim with the last bag", x.totalOfAll(), 50);
        c.due("suggest(10, 0)", x.suggest(10, 0), 12);
    }

    private static void totalOfAll() {
        LuggageTracing x = greedyIsNotBest();
        c.due("totalOfAll()", x.totalOfAll(), 169);
        x.match(1, 2);
        c.due("totalOfAll() of those that are free", x.totalOfAll(), 88);
        c.due("matchAll()", x.matchAll(), 1);
        c.due("totalOfAll() after matchAll()", x.totalOfAll(), 0);
        c.due("bag(1, 7)", x.bag(1, 7), 2);
    }

    private static void forecastsChangeNothing() {
        LuggageTracing x = greedyIsNotBest();
        long before = x.digest();
        x.bestTotal();
        x.totalOfAll();
        x.thresholdFor(1, 1);
        x.ifEnded(1, 400, 0);
        x.ifEnded(1, 400, 1);
        c.due("digest() after forecasts", x.digest(), before);
        c.due("count(3) after forecasts", x.count(3), 0);
        c.due("undo() after forecasts", x.undo(), 3);
    }

    private static void thresholdFor() {
        LuggageTracing x = greedyIsNotBest();
        c.due("thresholdFor(1, 1)", x.thresholdFor(1, 1), 95);
        c.due("thresholdFor(2, 2)", x.thresholdFor(2, 2), 74);
        x.setWeight(0, 50);
        c.due("thresholdFor(1, 1), at most 200", x.thresholdFor(1, 1), 200);
        x.setWeight(0, 0);
        x.setWeight(1, 0);
        x.setWeight(2, 0);
        x.setWeight(3, 0);
        x.setWeight(4, 0);
        c.due("thresholdFor(1, 1) of the score 0", x.thresholdFor(1, 1), 0);
        x.claim(0, 0, 0, 0, 1, 1, 0, 1);
        c.due("thresholdFor(3, 1) of the score -1", x.thresholdFor(3, 1), Checks.NONE);
        x.setWeight(4, 1);
        c.due("thresholdFor(3, 1) of the score 0 again", x.thresholdFor(3, 1), 0);
        x.match(1, 1);
        c.due("thresholdFor(1, 1) when matched", x.thresholdFor(1, 1), 1);
        x.setWeight(4, 50);
        x.setWeight(0, 25);
        c.due("score(1, 1, 0)", x.score(1, 1, 0), 200);
        c.due("thresholdFor(1, 1) of the score 200", x.thresholdFor(1, 1), 200);
        x.pass(1);
        x.claim(0, 0, 0, 0, 1, 1, 0, 0);
        c.due("thresholdFor(4, 1) without a score", x.thresholdFor(4, 1), Checks.NONE);
        for (int none : NO_NUMBERS) {
            c.due("thresholdFor(" + none + ", 1)", x.thresholdFor(none, 1), Checks.NO_SUCH);
            c.due("thresholdFor(1, " + none + ")", x.thresholdFor(1, none), Checks.NO_SUCH);
        }
    }

    private static void ifEnded() {
        LuggageTracing x = new LuggageTracing();
        x.claim(0, 0, 0, 0, 1, 250, 4, 2);
        int[][] daysDue = {{0, 60}, {1, 90}, {6, 240}, {7, 250}, {8, 250}, {400, 250}};
        for (int[] d : daysDue) {
            c.due("ifEnded(1, " + d[0] + ", 0)", x.ifEnded(1, d[0], 0), d[1]);
            c.due("ifEnded(1, " + d[0] + ", 1)", x.ifEnded(1, d[0], 1), 150);
        }
        x.claim(0, 0, 0, 0, 1, 99999, 20, 0);
        c.due("ifEnded(2, 9, 0)", x.ifEnded(2, 9, 0), 270);
        c.due("ifEnded(2, 10, 0)", x.ifEnded(2, 10, 0), 300);
        c.due("ifEnded(2, 11, 0)", x.ifEnded(2, 11, 0), 300);
        c.due("ifEnded(2, 0, 1)", x.ifEnded(2, 0, 1), 2000);
        Checks.passDays(x, 9999);
        x.claim(0, 0, 0, 0, 1, 99999, 20, 0);
        c.due("ifEnded(3, 5, 0) beyond the last day", x.ifEnded(3, 5, 0), 150);
    }

    private static void ifEndedRefuses() {
        LuggageTracing x = new LuggageTracing();
        x.claim(0, 0, 0, 0, 1, 250, 4, 2);
        for (int none : NO_NUMBERS) {
            c.due("ifEnded(" + none + ", 0, 0)", x.ifEnded(none, 0, 0), Checks.NO_SUCH);
            c.due("ifEnded(" + none + ", 401, 2)", x.ifEnded(none, 401, 2), Checks.NO_SUCH);
        }
        for (int days : new int[] {-1, 401, Integer.MIN_VALUE, Integer.MAX_VALUE}) {
            c.due("ifEnded(1, " + days + ", 0)", x.ifEnded(1, days, 0), Checks.BAD_VALUE);
            c.due("ifEnded(1, " + days + ", 1)", x.ifEnded(1, days, 1), Checks.BAD_VALUE);
        }
        for (int what : new int[] {-1, 2, Integer.MIN_VALUE, Integer.MAX_VALUE}) {
            c.due("ifEnded(1, 0, " + what + ")", x.ifEnded(1, 0, what), Checks.BAD_VALUE);
        }
    }
}
