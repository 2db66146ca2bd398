/** Promises 5, 6, 13 to 16: bags, claims and days, and what is told about them. */
public final class RegisterTest {
    private static final Checks c = new Checks("RegisterTest");
    private static final int MIN = Integer.MIN_VALUE;
    private static final int MAX = Integer.MAX_VALUE;

    public static void main(String[] args) {
        foundTellsWhatItWasTold();
        foundRefuses();
        foundHasALimit();
        illegibleDigitsAreTold();
        claimTellsWhatItWasTold();
        claimRefuses();
        claimHasALimit();
        numbersAreNotUsedAgain();
        pass();
        count();
        askingRefuses();
        c.end();
    }

    private static void foundTellsWhatItWasTold() {
        LuggageTracing x = new LuggageTracing();
        x.pass(17);
        c.due("found", x.found(6, 123456, 0, 5, 11, 129), 1);
        int[] due = {6, 123456, 0, 5, 11, 129, 17, Checks.NONE};
        for (int what = 0; what < 8; what++) {
            c.due("bag(1, " + what + ")", x.bag(1, what), due[what]);
        }
        c.due("found with least values", x.found(0, 0, 0, 0, 0, 0), 2);
        c.due("found with greatest values", x.found(7, 999999, 63, 7, 11, 255), 3);
        c.due("bag(3, 1)", x.bag(3, 1), 0);
        c.due("bag(3, 2)", x.bag(3, 2), 63);
    }

    private static void foundRefuses() {
        LuggageTracing x = new LuggageTracing();
        int[] greatest = {7, 999999, 63, 7, 11, 255};
        for (int i = 0; i < 6; i++) {
            for (int bad : new int[] {-1, MIN, greatest[i] + 1, MAX}) {
                int[] a = {0, 0, 0, 0, 0, 0};
                a[i] = bad;
                c.due("found with " + bad + " as argument " + i,
                        x.found(a[0], a[1], a[2], a[3], a[4], a[5]), Checks.BAD_VALUE);
            }
        }
        c.due("count(1) after errors", x.count(1), 0);
        c.due("undo() after errors", x.undo(), Checks.NOT_POSSIBLE);
    }

    private static void foundHasALimit() {
        LuggageTracing x = new LuggageTracing();
        for (int number = 1; number <= 12; number++) {
            c.due("found number " + number, x.found(0, number, 0, 0, 0, 0), number);
        }
        c.due("found number 13", x.found(0, 0, 0, 0, 0, 0), Checks.LIMIT);
        c.due("found number 13 with a bad value", x.found(8, 0, 0, 0, 0, 0), Checks.BAD_VALUE);
        c.due("count(1)", x.count(1), 12);
        c.due("undo()", x.undo(), 5);
        c.due("found after undo()", x.found(0, 0, 0, 0, 0, 0), 12);
    }

    private static void illegibleDigitsAreTold() {
        LuggageTracing x = new LuggageTracing();
        int[] illegible = {0, 1, 32, 33, 21, 42, 62, 31, 63};
        int[] tags = {987654, 87654, 987650, 87650, 80604, 907050, 900000, 4, 0};
        for (int i = 0; i < illegible.length; i++) {
            c.due("found with illegible " + illegible[i], x.found(0, 987654, illegible[i], 0, 0, 0), i + 1);
            c.due("bag(" + (i + 1) + ", 1)", x.bag(i + 1, 1), tags[i]);
            c.due("bag(" + (i + 1) + ", 2)", x.bag(i + 1, 2), illegible[i]);
        }
    }

    private static void claimTellsWhatItWasTold() {
        LuggageTracing x = new LuggageTracing();
        x.pass(9);
        c.due("claim", x.claim(654321, 6, 10, 130, 77, 4321, 13, 12), 1);
        int[] due = {654321, 6, 10, 130, 77, 4321, 13, -3, Checks.NONE};
        for (int what = 0; what < 9; what++) {
            c.due("claimOf(1, " + what + ")", x.claimOf(1, what), due[what]);
        }
        c.due("claim with least values", x.claim(0, 0, 0, 0, 1, 1, 0, 0), 2);
        c.due("claimOf(2, 7)", x.claimOf(2, 7), 9);
        c.due("claim with greatest values", x.claim(999999, 7, 11, 255, 255, 99999, 20, 30), 3);
        c.due("claimOf(3, 7)", x.claimOf(3, 7), -21);
        c.due("claimOf(3, 0)", x.claimOf(3, 0), 999999);
    }

    private static void claimRefuses() {
        LuggageTracing x = new LuggageTracing();
        int[] least = {0, 0, 0, 0, 1, 1, 0, 0};
        int[] greatest = {999999, 7, 11, 255, 255, 99999, 20, 30};
        for (int i = 0; i < 8; i++) {
            for (int bad : new int[] {least[i] - 1, MIN, greatest[i] + 1, MAX}) {
                int[] a = least.clone();
                a[i] = bad;
                c.due("claim with " + bad + " as argument " + i,
                        x.claim(a[0], a[1], a[2], a[3], a[4], a[5], a[6], a[7]), Checks.BAD_VALUE);
            }
        }
        c.due("count(2) after errors", x.count(2), 0);
        c.due("undo() after errors", x.undo(), Checks.NOT_POSSIBLE);
    }

    private static void claimHasALimit() {
        LuggageTracing x = new LuggageTracing();
        for (int number = 1; number <= 10; number++) {
            c.due("claim number " + number, x.claim(number, 0, 0, 0, 1, 1, 0, 0), number);
        }
        c.due("claim number 11", x.claim(0, 0, 0, 0, 1, 1, 0, 0), Checks.LIMIT);
        c.due("claim number 11 with a bad value", x.claim(0, 0, 0, 0, 0, 1, 0, 0), Checks.BAD_VALUE);
        c.due("count(2)", x.count(2), 10);
        c.due("undo()", x.undo(), 5);
    }

    private static void numbersAreNotUsedAgain() {
        LuggageTracing x = new LuggageTracing();
        for (int i = 0; i < 12; i++) {
            x.found(i % 8, 0, 0, 0, 0, 0);
        }
        for (int i = 0; i < 10; i++) {
            x.claim(i, 0, 0, 0, 1, 100, 0, 0);
        }
        x.match(4, 5);
        x.match(7, 6);
        x.deliver(4);
        c.due("bag(5, 0) when it is gone", x.bag(5, 0), Checks.NO_SUCH);
        c.due("claimOf(4, 0) when it is gone", x.claimOf(4, 0), Checks.NO_SUCH);
        c.due("bag(6, 7) behind it", x.bag(6, 7), 7);
        c.due("claimOf(7, 8) behind it", x.claimOf(7, 8), 6);
        c.due("bag(4, 0) ahead of it", x.bag(4, 0), 3);
        c.due("bag(12, 0) behind it", x.bag(12, 0), 3);
        c.due("claimOf(10, 0) behind it", x.claimOf(10, 0), 9);
        c.due("the next bag", x.found(1, 2, 0, 3, 4, 5), 13);
        c.due("bag(13, 7)", x.bag(13, 7), Checks.NONE);
        c.due("the bag after the limit", x.found(0, 0, 0, 0, 0, 0), Checks.LIMIT);
        c.due("the next claim", x.claim(1, 2, 3, 4, 5, 6, 7, 8), 11);
        c.due("claimOf(11, 8)", x.claimOf(11, 8), Checks.NONE);
        c.due("the claim after the limit", x.claim(1, 2, 3, 4, 5, 6, 7, 8), Checks.LIMIT);
    }

    private static void pass() {
        LuggageTracing x = new LuggageTracing();
        c.due("pass(1)", x.pass(1), 1);
        c.due("pass(400)", x.pass(400), 401);
        for (int bad : new int[] {0, -1, 401, MIN, MAX}) {
            c.due("pass(" + bad + ")", x.pass(bad), Checks.BAD_VALUE);
        }
        Checks.passDays(x, 9500);
        c.due("count(0)", x.count(0), 9901);
        c.due("pass(99)", x.pass(99), Checks.LIMIT);
        c.due("pass(98)", x.pass(98), 9999);
        c.due("pass(1) on the last day", x.pass(1), Checks.LIMIT);
        c.due("pass(0) on the last day", x.pass(0), Checks.BAD_VALUE);
        c.due("pass(401) on the last day", x.pass(401), Checks.BAD_VALUE);
        c.due("undo()", x.undo(), 5);
        c.due("count(0) after undo()", x.count(0), 9901);
    }

    private static void count() {
        LuggageTracing x = new LuggageTracing();
        for (int i = 0; i < 5; i++) {
            x.found(0, 0, 0, 0, 0, 0);
        }
        for (int i = 0; i < 4; i++) {
            x.claim(0, 0, 0, 0, 1, 1000 + i, 0, 2);
        }
        x.match(1, 1);
        x.match(2, 2);
        x.match(3, 3);
        x.pass(100);
        x.deliver(1);
        x.deliver(2);
        x.giveUp(4);
        x.auction(4);
        int[] due = {100, 2, 1, 1, 2, 1, 1, 300 + 300 + 1003};
        for (int what = 0; what < 8; what++) {
            c.due("count(" + what + ")", x.count(what), due[what]);
        }
        for (int bad : new int[] {-1, 8, MIN, MAX}) {
            c.due("count(" + bad + ")", x.count(bad), Checks.BAD_VALUE);
        }
    }

    private static void askingRefuses() {
        LuggageTracing x = new LuggageTracing();
        x.found(0, 0, 0, 0, 0, 0);
        x.claim(0, 0, 0, 0, 1, 1, 0, 0);
        for (int bad : new int[] {0, -1, 2, MIN, MAX}) {
            c.due("bag(" + bad + ", 0)", x.bag(bad, 0), Checks.NO_SUCH);
            c.due("bag(" + bad + ", 9)", x.bag(bad, 9), Checks.NO_SUCH);
            c.due("claimOf(" + bad + ", 0)", x.claimOf(bad, 0), Checks.NO_SUCH);
            c.due("claimOf(" + bad + ", 9)", x.claimOf(bad, 9), Checks.NO_SUCH);
        }
        for (int bad : new int[] {-1, 8, 9, MIN, MAX}) {
            c.due("bag(1, " + bad + ")", x.bag(1, bad), Checks.BAD_VALUE);
        }
        for (int bad : new int[] {-1, 9, 10, MIN, MAX}) {
            c.due("claimOf(1, " + bad + ")", x.claimOf(1, bad), Checks.BAD_VALUE);
        }
        c.due("bag(1, 7)", x.bag(1, 7), Checks.NONE);
        x.match(1, 1);
        c.due("bag(1, 7) when matched", x.bag(1, 7), 1);
        c.due("claimOf(1, 8) when matched", x.claimOf(1, 8), 1);
    }
}
