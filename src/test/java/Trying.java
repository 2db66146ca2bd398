import java.util.Arrays;

/** Offices with all kinds of scores, and their matches found by trying all that can be. */
final class Trying {
    static final int OFFICES = 30;
    static final int BAGS = 12;
    static final int CLAIMS = 10;

    private Trying() { }

    /** A full office that is another one for each number; the same number makes the same office. */
    static LuggageTracing office(int number) {
        LuggageTracing x = new LuggageTracing();
        Offices.weights(x, 0, 7 + number, 20, 6 + number % 3, 9, 1);
        x.setThreshold(number % 4 * 5);
        int step = 100 + 71 * number;
        for (int bag = 1; bag <= BAGS; bag++) {
            step = (step * 37 + 11) % 1009;
            x.found(step % 8, step * 991, 0, step / 8 % 8, step / 3 % 12, step % 256);
        }
        x.pass(1 + number % 3);
        for (int claim = 1; claim <= CLAIMS; claim++) {
            step = (step * 41 + 17) % 1013;
            x.claim(step * 983, step / 8 % 8, step / 3 % 12, step % 256, 1 + step % 255, 100, 0, claim + number % 2);
        }
        return x;
    }

    /** The scores of the office by claim and bag, from 0, or -1 if they are not likely. */
    static int[][] likely(LuggageTracing x, int number) {
        int[][] likely = new int[CLAIMS][BAGS];
        for (int claim = 0; claim < CLAIMS; claim++) {
            for (int bag = 0; bag < BAGS; bag++) {
                int score = x.score(claim + 1, bag + 1, 0);
                likely[claim][bag] = score >= number % 4 * 5 ? score : -1;
            }
        }
        return likely;
    }

    /** The greatest sum: the best one of each set of bags that are taken, claim by claim. */
    static int bestSum(int[][] likely) {
        int[] best = new int[1 << BAGS];
        Arrays.fill(best, -1);
        best[0] = 0;
        for (int[] ofClaim : likely) {
            int[] next = best.clone();
            for (int taken = 0; taken < best.length; taken++) {
                for (int bag = 0; bag < BAGS && best[taken] >= 0; bag++) {
                    int with = taken | 1 << bag;
                    if (with != taken && ofClaim[bag] >= 0) {
                        next[with] = Math.max(next[with], best[taken] + ofClaim[bag]);
                    }
                }
            }
            best = next;
        }
        return Arrays.stream(best).max().getAsInt();
    }

    /** The number of the bag of each claim, from 0, when the greatest score is always matched first. */
    static int[] greatestFirst(int[][] likely) {
        int[] bagOf = new int[CLAIMS];
        Arrays.fill(bagOf, Checks.NONE);
        boolean[] taken = new boolean[BAGS];
        for (int score = 1000; score >= 0; score--) {
            for (int claim = 0; claim < CLAIMS; claim++) {
                for (int bag = 0; bag < BAGS; bag++) {
                    if (likely[claim][bag] == score && bagOf[claim] == Checks.NONE && !taken[bag]) {
                        bagOf[claim] = bag + 1;
                        taken[bag] = true;
                    }
                }
            }
        }
        return bagOf;
    }

    static int sumOf(int[][] likely, int[] bagOf) {
        int sum = 0;
        for (int claim = 0; claim < CLAIMS; claim++) {
            sum += bagOf[claim] == Checks.NONE ? 0 : likely[claim][bagOf[claim] - 1];
        }
        return sum;
    }
}
