/** Promises 17 to 19: scores, suggestions and digits in common. */
public final class AskTest {
    private static final Checks c = new Checks("AskTest");
    private static final int[] NO_NUMBERS = {0, -1, 99, Integer.MIN_VALUE, Integer.MAX_VALUE};

    public static void main(String[] args) {
        digitPart();
        colourPart();
        kindPart();
        markPart();
        airportPart();
        dayPart();
        wholeScore();
        noScore();
        scoreRefuses();
        suggestOrders();
        suggestTellsScoresThatDifferByOne();
        suggestTakesFreeLikelyBags();
        suggestRefuses();
        suggestNeedsAClaim();
        sameDigits();
        c.end();
    }

    private static void digitPart() {
        LuggageTracing x = new LuggageTracing();
        x.claim(102030, 0, 0, 0, 1, 1, 0, 0);
        int[][] tagIllegibleDue = {{102030, 0, 48}, {2030, 0, 28}, {102031, 0, 28}, {102030, 63, 0},
            {999999, 63, 0}, {999999, 0, -72}, {999999, 1, -60}, {102030, 21, 24}, {902030, 1, 40},
            {902030, 32, 20}, {2030, 1, 40}, {102030, 32, 40}};
        int bag = 0;
        for (int[] t : tagIllegibleDue) {
            x.found(0, t[0], t[1], 0, 0, 0);
            bag++;
            c.due("score(1, " + bag + ", 1) of " + t[0] + ", " + t[1], x.score(1, bag, 1), t[2]);
        }
        x.setWeight(0, 1);
        c.due("score(1, 6, 1) with the weight 1", x.score(1, 6, 1), -6);
        x.setWeight(0, 3);
        c.due("score(1, 6, 1) with the weight 3", x.score(1, 6, 1), -24);
        x.setWeight(0, 7);
        c.due("score(1, 6, 1) with the weight 7", x.score(1, 6, 1), -60);
        x.setWeight(0, 50);
        c.due("score(1, 6, 1) with the weight 50", x.score(1, 6, 1), -450);
    }

    private static void colourPart() {
        for (int one = 0; one < 8; one++) {
            LuggageTracing x = new LuggageTracing();
            x.claim(0, one, 0, 0, 1, 1, 0, 0);
            x.setWeight(1, 11);
            for (int other = 0; other < 8; other++) {
                x.found(0, 0, 0, other, 0, 0);
                int apart = Math.abs(one - other);
                int due = apart == 0 ? 11 : apart == 1 || apart == 7 ? 3 : 0;
                c.due("score(1, " + (other + 1) + ", 2) of the colour " + one, x.score(1, other + 1, 2), due);
            }
        }
    }

    private static void kindPart() {
        int[] groups = {0, 0, 0, 0, 1, 1, 1, 1, 2, 2, 2, 2};
        for (int one = 0; one < 12; one++) {
            LuggageTracing x = new LuggageTracing();
            x.claim(0, 0, one, 0, 1, 1, 0, 0);
            x.setWeight(2, 14);
            for (int other = 0; other < 12; other++) {
                x.found(0, 0, 0, 0, other, 0);
                int due = one == other ? 14 : groups[one] == groups[other] ? 4 : 0;
                c.due("score(1, " + (other + 1) + ", 3) of the kind " + one, x.score(1, other + 1, 3), due);
            }
        }
    }

    private static void markPart() {
        int[][] marksWeightDue = {{0, 0, 5, 0}, {255, 255, 5, 40}, {255, 0, 5, -16}, {0, 255, 5, -16},
            {12, 10, 5, 1}, {128, 128, 7, 7}, {128, 1, 7, -6}, {7, 3, 1, 2}, {15, 1, 2, -1}, {255, 0, 50, -200}};
        for (int[] m : marksWeightDue) {
            LuggageTracing x = new LuggageTracing();
            x.claim(0, 0, 0, m[0], 1, 1, 0, 0);
            x.found(0, 0, 0, 0, 0, m[1]);
            x.setWeight(3, m[2]);
            c.due("score(1, 1, 4) of " + m[0] + ", " + m[1] + ", weight " + m[2], x.score(1, 1, 4), m[3]);
        }
    }

    private static void airportPart() {
        for (int airport = 0; airport < 8; airport++) {
            LuggageTracing x = new LuggageTracing();
            x.claim(0, 0, 0, 0, 1 << airport, 1, 0, 0);
            x.claim(0, 0, 0, 0, 255 - (1 << airport), 1, 0, 0);
            x.claim(0, 0, 0, 0, 255, 1, 0, 0);
            x.found(airport, 0, 0, 0, 0, 0);
            c.due("score(1, 1, 5) of the airport " + airport, x.score(1, 1, 5), 15);
            c.due("score(2, 1, 5) of the airport " + airport, x.score(2, 1, 5), -15);
            c.due("score(3, 1, 5) of the airport " + airport, x.score(3, 1, 5), 15);
        }
    }

    private static void dayPart() {
        LuggageTracing x = new LuggageTracing();
        int[] ago = {0, 1, 9, 10, 11, 30};
        int[] due = {0, -3, -27, -30, -30, -30};
        x.setWeight(5, 3);
        x.found(0, 0, 0, 0, 0, 0);
        for (int i = 0; i < ago.length; i++) {
            x.claim(0, 0, 0, 0, 1, 1, 0, ago[i]);
            c.due("score(" + (i + 1) + ", 1, 6)", x.score(i + 1, 1, 6), due[i]);
        }
        x.pass(5);
        c.due("score(2, 1, 6) does not change with the current day", x.score(2, 1, 6), -3);
    }

    private static void wholeScore() {
        LuggageTracing x = new LuggageTracing();
        x.claim(123456, 2, 6, 7, 12, 1, 0, 4);
        x.found(3, 123956, 1, 3, 4, 21);
        int[] due = {32 - 12 + 3 + 4 + 6 + 15 - 4, 20, 3, 4, 6, 15, -4};
        for (int part = 0; part <= 6; part++) {
            c.due("score(1, 1, " + part + ")", x.score(1, 1, part), due[part]);
        }
    }

    private static void noScore() {
        LuggageTracing x = new LuggageTracing();
        x.found(0, 0, 0, 0, 0, 0);
        x.pass(1);
        x.claim(0, 0, 0, 0, 1, 1, 0, 0);
        for (int part = 0; part <= 6; part++) {
            c.due("score(1, 1, " + part + ") without a score", x.score(1, 1, part), Checks.NONE);
        }
        c.due("score(1, 1, 7) without a score", x.score(1, 1, 7), Checks.BAD_VALUE);
        c.due("score(1, 1, -1) without a score", x.score(1, 1, -1), Checks.BAD_VALUE);
        c.due("sameDigits(1, 1) without a score", x.sameDigits(1, 1), 63);
    }

    private static void scoreRefuses() {
        LuggageTracing x = new LuggageTracing();
        x.found(0, 0, 0, 0, 0, 0);
        x.claim(0, 0, 0, 0, 1, 1, 0, 0);
        for (int none : NO_NUMBERS) {
            c.due("score(" + none + ", 1, 0)", x.score(none, 1, 0), Checks.NO_SUCH);
            c.due("score(1, " + none + ", 7)", x.score(1, none, 7), Checks.NO_SUCH);
        }
        for (int bad : new int[] {-1, 7, Integer.MIN_VALUE, Integer.MAX_VALUE}) {
            c.due("score(1, 1, " + bad + ")", x.score(1, 1, bad), Checks.BAD_VALUE);
        }
        x.match(1, 1);
        c.due("score(1, 1, 0) when matched", x.score(1, 1, 0), 85);
    }

    private static void suggestOrders() {
        LuggageTracing x = new LuggageTracing();
        x.claim(123456, 0, 0, 0, 1, 1, 0, 0);
        x.found(0, 123456, 48, 0, 0, 0);
        x.found(0, 123456, 0, 0, 0, 0);
        x.found(0, 123456, 32, 0, 0, 0);
        x.found(0, 999999, 0, 0, 0, 0);
        x.found(0, 123456, 0, 0, 0, 0);
        x.found(0, 123456, 16, 0, 0, 0);
        int[] due = {2, 5, 3, 6, 1};
        for (int rank = 0; rank < due.length; rank++) {
            c.due("suggest(1, " + rank + ")", x.suggest(1, rank), due[rank]);
        }
        c.due("suggest(1, 5)", x.suggest(1, 5), Checks.NO_SUCH);
    }

    private static void suggestTellsScoresThatDifferByOne() {
        LuggageTracing x = new LuggageTracing();
        x.claim(0, 0, 0, 0, 255, 1, 0, 0);
        x.found(0, 0, 0, 0, 0, 0);
        x.pass(1);
        x.found(0, 0, 0, 0, 0, 0);
        c.due("suggest(1, 0) of 85 and 84", x.suggest(1, 0), 1);
        c.due("suggest(1, 1) of 85 and 84", x.suggest(1, 1), 2);
        x.claim(0, 0, 0, 0, 255, 1, 0, 0);
        c.due("suggest(2, 0) of the later bag alone", x.suggest(2, 0), 2);
        x.claim(0, 0, 0, 1, 255, 1, 0, 1);
        x.found(0, 0, 0, 0, 0, 1);
        c.due("suggest(3, 0) of 83, 82 and 89", x.suggest(3, 0), 3);
        c.due("suggest(3, 1) of 83, 82 and 89", x.suggest(3, 1), 1);
        c.due("suggest(3, 2) of 83, 82 and 89", x.suggest(3, 2), 2);
        x.auction(1);
        x.undo();
        c.due("suggest(1, 3) of three bags", x.suggest(1, 3), Checks.NO_SUCH);
    }

    private static void suggestTakesFreeLikelyBags() {
        LuggageTracing x = new LuggageTracing();
        x.claim(123456, 0, 0, 0, 1, 1, 0, 0);
        x.claim(123456, 0, 0, 0, 1, 1, 0, 0);
        x.found(0, 123456, 0, 0, 0, 0);
        x.found(0, 123456, 1, 0, 0, 0);
        x.match(1, 1);
        c.due("suggest(2, 0): a matched bag is left out", x.suggest(2, 0), 2);
        c.due("suggest(2, 1)", x.suggest(2, 1), Checks.NO_SUCH);
        c.due("suggest(1, 0) for a matched claim", x.suggest(1, 0), 2);
        x.setThreshold(77);
        c.due("suggest(2, 0) at the threshold", x.suggest(2, 0), 2);
        x.setThreshold(78);
        c.due("suggest(2, 0) below the threshold", x.suggest(2, 0), Checks.NO_SUCH);
        x.setThreshold(0);
        x.pass(1);
        x.claim(123456, 0, 0, 0, 1, 1, 0, 0);
        c.due("suggest(3, 0) without scores", x.suggest(3, 0), Checks.NO_SUCH);
    }

    private static void suggestRefuses() {
        LuggageTracing x = new LuggageTracing();
        x.claim(123456, 0, 0, 0, 1, 1, 0, 0);
        c.due("suggest(1, 0) without bags", x.suggest(1, 0), Checks.NO_SUCH);
        for (int i = 0; i < 12; i++) {
            x.found(0, 123456, 0, 0, 0, 0);
        }
        c.due("suggest(1, 11)", x.suggest(1, 11), 12);
        c.due("suggest(1, 12)", x.suggest(1, 12), Checks.NO_SUCH);
        for (int none : NO_NUMBERS) {
            c.due("suggest(" + none + ", 0)", x.suggest(none, 0), Checks.NO_SUCH);
        }
        for (int rank : new int[] {-1, 99, Integer.MIN_VALUE, Integer.MAX_VALUE}) {
            c.due("suggest(1, " + rank + ")", x.suggest(1, rank), Checks.NO_SUCH);
        }
    }

    // With these weights even a bag without anything in common with a claim is likely.
    private static void suggestNeedsAClaim() {
        LuggageTracing x = new LuggageTracing();
        for (int weight = 0; weight < 6; weight++) {
            x.setWeight(weight, 0);
        }
        x.setThreshold(0);
        x.found(1, 0, 63, 0, 0, 0);
        for (int none : NO_NUMBERS) {
            c.due("suggest(" + none + ", 0) at the threshold 0", x.suggest(none, 0), Checks.NO_SUCH);
        }
        c.due("suggest(1, 0) without claims", x.suggest(1, 0), Checks.NO_SUCH);
        x.claim(0, 0, 0, 0, 1, 1, 0, 0);
        c.due("suggest(1, 0) with a claim", x.suggest(1, 0), 1);
    }

    private static void sameDigits() {
        LuggageTracing x = new LuggageTracing();
        x.claim(12345, 0, 0, 0, 1, 1, 0, 0);
        int[][] tagIllegibleDue = {{12345, 0, 63}, {12345, 5, 58}, {912345, 0, 62}, {12346, 0, 31},
            {112345, 1, 62}, {999999, 0, 0}, {12345, 63, 0}, {19349, 0, 27}, {0, 0, 1}, {0, 1, 0}, {5, 0, 33}};
        int bag = 0;
        for (int[] t : tagIllegibleDue) {
            x.found(0, t[0], t[1], 0, 0, 0);
            bag++;
            c.due("sameDigits(1, " + bag + ") of " + t[0] + ", " + t[1], x.sameDigits(1, bag), t[2]);
        }
        for (int none : NO_NUMBERS) {
            c.due("sameDigits(" + none + ", 1)", x.sameDigits(none, 1), Checks.NO_SUCH);
            c.due("sameDigits(1, " + none + ")", x.sameDigits(1, none), Checks.NO_SUCH);
        }
    }
}
