/** Promises 7 to 12: matches, deliveries, claims given up and auctions. */
public final class MatchTest {
    private static final Checks c = new Checks("MatchTest");
    private static final int[] NO_NUMBERS = {0, -1, 99, Integer.MIN_VALUE, Integer.MAX_VALUE};

    public static void main(String[] args) {
        match();
        matchNeedsAScore();
        unmatch();
        matchAllTakesTheGreatest();
        matchAllTakesTheLowestNumbers();
        matchAllKeepsToTheThreshold();
        matchAllFillsTheOffice();
        deliver();
        deliveryIsPaidByTheDay();
        giveUp();
        givenUpIsPaidByAge();
        auction();
        c.end();
    }

    private static LuggageTracing twoAndTwo() {
        LuggageTracing x = new LuggageTracing();
        x.claim(111111, 0, 0, 0, 1, 500, 0, 0);
        x.claim(222222, 0, 0, 0, 1, 500, 0, 0);
        x.found(0, 111111, 0, 0, 0, 0);
        x.found(0, 222222, 0, 0, 0, 0);
        return x;
    }

    private static void match() {
        LuggageTracing x = twoAndTwo();
        c.due("match(1, 2) below the threshold", x.match(1, 2), -72 + 10 + 12 + 15);
        c.due("claimOf(1, 8)", x.claimOf(1, 8), 2);
        c.due("bag(2, 7)", x.bag(2, 7), 1);
        c.due("match(1, 1): the claim is not free", x.match(1, 1), Checks.NOT_POSSIBLE);
        c.due("match(2, 2): the bag is not free", x.match(2, 2), Checks.NOT_POSSIBLE);
        c.due("match(1, 2): neither is free", x.match(1, 2), Checks.NOT_POSSIBLE);
        for (int none : NO_NUMBERS) {
            c.due("match(" + none + ", 1)", x.match(none, 1), Checks.NO_SUCH);
            c.due("match(" + none + ", 2)", x.match(none, 2), Checks.NO_SUCH);
            c.due("match(2, " + none + ")", x.match(2, none), Checks.NO_SUCH);
            c.due("match(1, " + none + ")", x.match(1, none), Checks.NO_SUCH);
        }
        c.due("count(3)", x.count(3), 1);
        c.due("match(2, 1)", x.match(2, 1), -72 + 10 + 12 + 15);
        c.due("count(3)", x.count(3), 2);
        c.due("undo()", x.undo(), 5);
        c.due("bag(1, 7) after undo()", x.bag(1, 7), Checks.NONE);
        c.due("claimOf(2, 8) after undo()", x.claimOf(2, 8), Checks.NONE);
        c.due("claimOf(1, 8) after undo()", x.claimOf(1, 8), 2);
    }

    private static void matchNeedsAScore() {
        LuggageTracing x = new LuggageTracing();
        x.found(0, 0, 0, 0, 0, 0);
        x.pass(3);
        x.claim(0, 0, 0, 0, 1, 1, 0, 2);
        x.claim(0, 0, 0, 0, 1, 1, 0, 3);
        c.due("match(1, 1): found before the flight", x.match(1, 1), Checks.NOT_POSSIBLE);
        c.due("bag(1, 7)", x.bag(1, 7), Checks.NONE);
        c.due("match(2, 1): found on the day of the flight", x.match(2, 1), 48 + 10 + 12 + 15);
    }

    private static void unmatch() {
        LuggageTracing x = twoAndTwo();
        c.due("unmatch(1) when free", x.unmatch(1), Checks.NOT_POSSIBLE);
        x.match(1, 2);
        x.match(2, 1);
        for (int none : NO_NUMBERS) {
            c.due("unmatch(" + none + ")", x.unmatch(none), Checks.NO_SUCH);
        }
        c.due("unmatch(1)", x.unmatch(1), 2);
        c.due("bag(2, 7)", x.bag(2, 7), Checks.NONE);
        c.due("claimOf(1, 8)", x.claimOf(1, 8), Checks.NONE);
        c.due("bag(1, 7)", x.bag(1, 7), 2);
        c.due("count(3)", x.count(3), 1);
        c.due("unmatch(1) again", x.unmatch(1), Checks.NOT_POSSIBLE);
        c.due("undo()", x.undo(), 5);
        c.due("bag(2, 7) after undo()", x.bag(2, 7), 1);
    }

    private static void matchAllTakesTheGreatest() {
        LuggageTracing x = new LuggageTracing();
        x.claim(111111, 0, 0, 0, 1, 1, 0, 0);
        x.claim(111112, 0, 0, 0, 1, 1, 0, 0);
        x.found(0, 111112, 0, 0, 0, 0);
        x.found(0, 111112, 32, 0, 0, 0);
        c.due("matchAll()", x.matchAll(), 2);
        c.due("claimOf(2, 8): the greatest score first", x.claimOf(2, 8), 1);
        c.due("claimOf(1, 8)", x.claimOf(1, 8), 2);
        c.due("matchAll() without free ones", x.matchAll(), 0);
        c.due("undo() of a matchAll() without matches", x.undo(), 5);
        c.due("claimOf(1, 8)", x.claimOf(1, 8), 2);
        c.due("undo() of matchAll()", x.undo(), 4);
        c.due("count(3)", x.count(3), 0);
    }

    private static void matchAllTakesTheLowestNumbers() {
        LuggageTracing x = new LuggageTracing();
        for (int i = 0; i < 3; i++) {
            x.claim(5, 0, 0, 0, 1, 1, 0, 0);
            x.found(0, 5, 0, 0, 0, 0);
        }
        x.match(2, 2);
        c.due("matchAll()", x.matchAll(), 2);
        c.due("claimOf(1, 8)", x.claimOf(1, 8), 1);
        c.due("claimOf(2, 8)", x.claimOf(2, 8), 2);
        c.due("claimOf(3, 8)", x.claimOf(3, 8), 3);
    }

    private static void matchAllKeepsToTheThreshold() {
        LuggageTracing x = twoAndTwo();
        x.setThreshold(86);
        c.due("matchAll() above all scores", x.matchAll(), 0);
        x.setThreshold(85);
        c.due("matchAll() at the scores", x.matchAll(), 2);
        c.due("claimOf(2, 8)", x.claimOf(2, 8), 2);
        LuggageTracing y = new LuggageTracing();
        c.due("matchAll() in an empty office", y.matchAll(), 0);
        c.due("undo() in an empty office", y.undo(), 0);
        y.claim(0, 0, 0, 0, 1, 1, 0, 0);
        y.found(1, 0, 63, 4, 11, 0);
        y.setThreshold(0);
        c.due("score(1, 1, 0)", y.score(1, 1, 0), -15);
        c.due("matchAll() of a negative score", y.matchAll(), 0);
        y.setWeight(4, 0);
        c.due("matchAll() of the score 0", y.matchAll(), 1);
    }

    private static void matchAllFillsTheOffice() {
        LuggageTracing x = new LuggageTracing();
        for (int i = 0; i < 10; i++) {
            x.claim(i * 111111, 0, 0, 0, 1, 1, 0, 0);
        }
        for (int i = 0; i < 12; i++) {
            x.found(0, (11 - i) % 10 * 111111, 0, 0, 0, 0);
        }
        c.due("matchAll()", x.matchAll(), 10);
        for (int i = 1; i <= 10; i++) {
            int bag = i == 1 ? 2 : i == 2 ? 1 : 13 - i;
            c.due("claimOf(" + i + ", 8)", x.claimOf(i, 8), bag);
        }
    }

    private static void deliver() {
        LuggageTracing x = twoAndTwo();
        c.due("deliver(1) when free", x.deliver(1), Checks.NOT_POSSIBLE);
        for (int none : NO_NUMBERS) {
            c.due("deliver(" + none + ")", x.deliver(none), Checks.NO_SUCH);
        }
        x.match(1, 2);
        x.pass(3);
        c.due("deliver(1)", x.deliver(1), 90);
        c.due("bag(2, 0)", x.bag(2, 0), Checks.NO_SUCH);
        c.due("bag(1, 7)", x.bag(1, 7), Checks.NONE);
        c.due("claimOf(1, 0)", x.claimOf(1, 0), Checks.NO_SUCH);
        c.due("claimOf(2, 0)", x.claimOf(2, 0), 222222);
        c.due("deliver(1) again", x.deliver(1), Checks.NO_SUCH);
        int[] due = {3, 1, 1, 0, 1, 0, 0, 90};
        for (int what = 0; what < 8; what++) {
            c.due("count(" + what + ")", x.count(what), due[what]);
        }
        c.due("undo()", x.undo(), 5);
        c.due("count(7) after undo()", x.count(7), 0);
        c.due("bag(2, 7) after undo()", x.bag(2, 7), 1);
    }

    private static void deliveryIsPaidByTheDay() {
        int[] ago = {0, 1, 9, 10, 11, 30};
        int[] due = {0, 30, 270, 300, 300, 300};
        for (int i = 0; i < ago.length; i++) {
            LuggageTracing x = new LuggageTracing();
            x.claim(0, 0, 0, 0, 1, 1000, 0, ago[i]);
            x.found(0, 0, 0, 0, 0, 0);
            x.match(1, 1);
            c.due("deliver(1), " + ago[i] + " days after the flight", x.deliver(1), due[i]);
        }
        LuggageTracing x = new LuggageTracing();
        x.claim(0, 0, 0, 0, 1, 299, 0, 20);
        x.found(0, 0, 0, 0, 0, 0);
        x.match(1, 1);
        c.due("deliver(1), at most the worth", x.deliver(1), 299);
    }

    private static void giveUp() {
        LuggageTracing x = new LuggageTracing();
        x.claim(0, 0, 0, 0, 1, 1000, 0, 20);
        x.claim(0, 0, 0, 0, 1, 1000, 0, 21);
        x.claim(0, 0, 0, 0, 1, 1000, 0, 30);
        x.found(0, 0, 0, 0, 0, 0);
        x.match(3, 1);
        for (int none : NO_NUMBERS) {
            c.due("giveUp(" + none + ")", x.giveUp(none), Checks.NO_SUCH);
        }
        c.due("giveUp(1) after 20 days", x.giveUp(1), Checks.NOT_POSSIBLE);
        c.due("giveUp(3) when matched", x.giveUp(3), Checks.NOT_POSSIBLE);
        c.due("giveUp(2) after 21 days", x.giveUp(2), 1000);
        c.due("giveUp(2) again", x.giveUp(2), Checks.NO_SUCH);
        c.due("bag(1, 7)", x.bag(1, 7), 3);
        c.due("claimOf(3, 8)", x.claimOf(3, 8), 1);
        x.pass(1);
        c.due("giveUp(1) a day later", x.giveUp(1), 1000);
        c.due("count(2)", x.count(2), 1);
        c.due("count(4)", x.count(4), 0);
        c.due("count(5)", x.count(5), 2);
        c.due("count(7)", x.count(7), 2000);
        c.due("undo()", x.undo(), 5);
        c.due("count(5) after undo()", x.count(5), 1);
        c.due("claimOf(1, 5) after undo()", x.claimOf(1, 5), 1000);
    }

    private static void givenUpIsPaidByAge() {
        int[][] worthAgeDue = {{999, 0, 999}, {999, 1, 899}, {999, 7, 299}, {999, 8, 199}, {999, 9, 199},
            {999, 20, 199}, {1, 1, 0}, {2000, 0, 2000}, {2001, 0, 2000}, {99999, 20, 2000}, {9999, 20, 1999}};
        for (int[] w : worthAgeDue) {
            LuggageTracing x = new LuggageTracing();
            x.claim(0, 0, 0, 0, 1, w[0], w[1], 30);
            c.due("giveUp(1) of worth " + w[0] + " and age " + w[1], x.giveUp(1), w[2]);
        }
    }

    private static void auction() {
        LuggageTracing x = new LuggageTracing();
        x.claim(0, 0, 0, 0, 1, 1, 0, 0);
        x.found(0, 0, 0, 0, 0, 0);
        x.found(1, 0, 0, 0, 0, 0);
        x.pass(1);
        x.found(2, 0, 0, 0, 0, 0);
        x.match(1, 1);
        x.pass(88);
        c.due("auction(2) after 89 days", x.auction(2), Checks.NOT_POSSIBLE);
        x.pass(1);
        for (int none : NO_NUMBERS) {
            c.due("auction(" + none + ")", x.auction(none), Checks.NO_SUCH);
        }
        c.due("auction(1) when matched", x.auction(1), Checks.NOT_POSSIBLE);
        c.due("auction(3) after 89 days", x.auction(3), Checks.NOT_POSSIBLE);
        c.due("auction(2) after 90 days", x.auction(2), 2);
        c.due("auction(2) again", x.auction(2), Checks.NO_SUCH);
        c.due("bag(3, 0)", x.bag(3, 0), 2);
        c.due("count(1)", x.count(1), 2);
        c.due("count(6)", x.count(6), 1);
        c.due("count(7)", x.count(7), 0);
        x.unmatch(1);
        c.due("auction(1) when free again", x.auction(1), 1);
        x.undo();
        c.due("count(6) after undo()", x.count(6), 1);
        c.due("bag(1, 0) after undo()", x.bag(1, 0), 0);
    }
}
