/** Promises 29 and 30: undo and the hash of the state. */
public final class UndoTest {
    private static final Checks c = new Checks("UndoTest");

    public static void main(String[] args) {
        sixStatesAreSaved();
        undoneNumbersComeAgain();
        undoRestoresEverything();
        errorsSaveNothing();
        digestFollowsItsList();
        digestOfMatchesAndMissingScores();
        c.end();
    }

    private static void sixStatesAreSaved() {
        LuggageTracing x = new LuggageTracing();
        for (int i = 0; i < 9; i++) {
            x.pass(1);
        }
        for (int left = 5; left >= 0; left--) {
            c.due("undo()", x.undo(), left);
            c.due("count(0)", x.count(0), left + 3);
        }
        c.due("undo() without saved states", x.undo(), Checks.NOT_POSSIBLE);
        c.due("count(0)", x.count(0), 3);
        x.pass(10);
        x.pass(10);
        c.due("undo() of a new state", x.undo(), 1);
        x.pass(100);
        c.due("count(0)", x.count(0), 113);
        c.due("undo()", x.undo(), 1);
        c.due("undo()", x.undo(), 0);
        c.due("count(0)", x.count(0), 3);
    }

    private static void undoneNumbersComeAgain() {
        LuggageTracing x = new LuggageTracing();
        x.found(0, 0, 0, 0, 0, 0);
        x.claim(0, 0, 0, 0, 1, 1, 0, 0);
        x.undo();
        x.undo();
        c.due("count(1)", x.count(1), 0);
        c.due("found after undo()", x.found(0, 0, 0, 0, 0, 0), 1);
        c.due("claim after undo()", x.claim(0, 0, 0, 0, 1, 1, 0, 0), 1);
    }

    private static void undoRestoresEverything() {
        LuggageTracing x = new LuggageTracing();
        x.claim(111111, 0, 0, 0, 1, 900, 0, 30);
        x.claim(111111, 0, 0, 0, 1, 900, 0, 30);
        x.claim(111111, 0, 0, 0, 1, 900, 0, 0);
        x.found(0, 111111, 0, 0, 0, 0);
        x.found(0, 111111, 0, 0, 0, 0);
        x.match(3, 2);
        x.pass(100);
        Object[] names = {"setWeight", "setThreshold", "setMoney", "found", "claim", "match", "unmatch", "matchAll",
            "deliver", "giveUp", "auction", "pass", "readBags"};
        for (int call = 0; call < names.length; call++) {
            long before = probe(x);
            change(x, call);
            c.holds(names[call] + " changes the state", probe(x) != before);
            x.undo();
            c.due("the state after undo() of " + names[call], probe(x), before);
        }
    }

    private static void change(LuggageTracing x, int call) {
        switch (call) {
            case 0: x.setWeight(0, 9); break;
            case 1: x.setThreshold(10); break;
            case 2: x.setMoney(30, 100); break;
            case 3: x.found(1, 2, 3, 4, 5, 6); break;
            case 4: x.claim(1, 2, 3, 4, 5, 6, 7, 8); break;
            case 5: x.match(1, 1); break;
            case 6: x.unmatch(3); break;
            case 7: x.matchAll(); break;
            case 8: x.deliver(3); break;
            case 9: x.giveUp(1); break;
            case 10: x.auction(1); break;
            case 11: x.pass(3); break;
            default: Checks.typeAll(x, "1:000000:0a"); x.readBags(); break;
        }
    }

    private static long probe(LuggageTracing x) {
        long hash = x.digest() * 31 + x.ifEnded(3, 0, 0);
        hash = hash * 31 + x.ifEnded(3, 0, 1);
        hash = hash * 31 + x.setThreshold(0);
        x.undo();
        return hash;
    }

    private static void errorsSaveNothing() {
        LuggageTracing x = new LuggageTracing();
        x.setWeight(9, 9);
        x.setThreshold(-1);
        x.setMoney(-1, 0);
        x.found(-1, 0, 0, 0, 0, 0);
        x.claim(-1, 0, 0, 0, 0, 0, 0, 0);
        x.match(1, 1);
        x.unmatch(1);
        x.deliver(1);
        x.giveUp(1);
        x.auction(1);
        x.pass(0);
        x.readBags();
        x.type(49);
        x.clearText();
        x.digest();
        c.due("undo() after errors and questions", x.undo(), Checks.NOT_POSSIBLE);
        x.matchAll();
        c.due("undo() of matchAll() without matches", x.undo(), 0);
    }

    private static void digestFollowsItsList() {
        LuggageTracing x = new LuggageTracing();
        x.pass(3);
        x.found(5, 123456, 3, 2, 7, 9);
        x.claim(103456, 2, 7, 9, 32, 700, 3, 1);
        int score = 32 + 10 + 12 + 10 + 15 - 1;
        long[] list = {3, 1, 1, 0, 0, 0, 0, 0,
            1, 5, 3456, 3, 2, 7, 9, 3, Checks.NONE,
            1, 103456, 2, 7, 9, 32, 700, 3, 2, Checks.NONE, score,
            score, score};
        c.due("digest()", x.digest(), hashOf(list));
        c.due("digest() again", x.digest(), hashOf(list));
    }

    private static void digestOfMatchesAndMissingScores() {
        LuggageTracing x = new LuggageTracing();
        x.found(0, 0, 0, 0, 0, 0);
        x.pass(2);
        x.found(0, 0, 0, 0, 0, 0);
        x.claim(0, 0, 0, 0, 1, 1, 0, 1);
        x.claim(0, 0, 0, 0, 1, 1, 0, 30);
        x.match(1, 2);
        long[] list = {2, 2, 2, 1, 0, 0, 0, 0,
            1, 0, 0, 0, 0, 0, 0, 0, Checks.NONE,
            2, 0, 0, 0, 0, 0, 0, 2, 1,
            1, 0, 0, 0, 0, 1, 1, 0, 1, 2, Checks.NONE, 84,
            2, 0, 0, 0, 0, 1, 1, 0, -28, Checks.NONE, 75, 75,
            75, 75};
        c.due("digest() with a match", x.digest(), hashOf(list));
    }

    private static long hashOf(long[] list) {
        long hash = 234;
        for (long v : list) {
            hash = 31 * hash + v;
        }
        return hash;
    }
}
