import java.util.ArrayList;
import java.util.List;

/** Offices to begin tests with, and all that can be asked about an office. */
final class Offices {
    static final String BAG = "1:000000:0a";
    static final String TWO_BAGS = "3:12?45?:6dsuz;7:000009:0a";

    private Offices() { }

    static LuggageTracing empty() {
        return new LuggageTracing();
    }

    static int bag(LuggageTracing x) {
        return x.found(0, 0, 0, 0, 0, 0);
    }

    /** A claim that has the score 85 with a bag of the same day by bag(), before weights are changed. */
    static int claim(LuggageTracing x) {
        return x.claim(0, 0, 0, 0, 1, 1, 0, 0);
    }

    static LuggageTracing withBagsAndClaims(int bags, int claims) {
        LuggageTracing x = new LuggageTracing();
        for (int i = 0; i < bags; i++) {
            bag(x);
        }
        for (int i = 0; i < claims; i++) {
            claim(x);
        }
        return x;
    }

    static LuggageTracing pair() {
        return withBagsAndClaims(1, 1);
    }

    static LuggageTracing matchedPair() {
        LuggageTracing x = pair();
        x.match(1, 1);
        return x;
    }

    static LuggageTracing pairOfUnlikely() {
        LuggageTracing x = pair();
        x.setThreshold(86);
        return x;
    }

    /** A claim and a bag that are gone left this office; every score would be likely, as it is 0. */
    static LuggageTracing leftEmpty() {
        LuggageTracing x = pair();
        weights(x, 0, 0, 0, 0, 0, 0);
        x.setThreshold(0);
        x.pass(90);
        x.giveUp(1);
        x.auction(1);
        return x;
    }

    static LuggageTracing leftWithABag() {
        LuggageTracing x = leftEmpty();
        bag(x);
        return x;
    }

    static LuggageTracing leftWithAClaim() {
        LuggageTracing x = leftEmpty();
        claim(x);
        return x;
    }

    static LuggageTracing withText(String text) {
        LuggageTracing x = new LuggageTracing();
        Checks.typeAll(x, text);
        return x;
    }

    static LuggageTracing onDay(int day) {
        LuggageTracing x = new LuggageTracing();
        Checks.passDays(x, day);
        return x;
    }

    static void weights(LuggageTracing x, int digit, int colour, int kind, int mark, int airport, int day) {
        int[] values = {digit, colour, kind, mark, airport, day};
        for (int weight = 0; weight < 6; weight++) {
            x.setWeight(weight, values[weight]);
        }
    }

    /**
     * Day 100 with four claims and three bags, claim 3 matched with bag 3; a text, a problem, changed settings
     * and three saved states. Claims 1 and 2 can be given up and bag 1 can be sold.
     */
    static LuggageTracing busy() {
        LuggageTracing x = withText("9");
        x.readBags();
        x.clearText();
        Checks.typeAll(x, TWO_BAGS);
        x.found(3, 120450, 36, 6, 3, 133);
        x.claim(999999, 7, 11, 255, 255, 1, 20, 30);
        x.pass(100);
        x.found(0, 111111, 0, 0, 0, 3);
        x.found(1, 222222, 0, 1, 4, 0);
        x.claim(111111, 0, 0, 3, 3, 5000, 4, 30);
        x.claim(222222, 1, 4, 0, 3, 700, 2, 0);
        x.claim(111110, 0, 1, 1, 1, 9000, 0, 10);
        x.match(3, 3);
        x.setWeight(4, 16);
        x.setThreshold(35);
        x.setMoney(31, 1900);
        return withThreeSavedStates(x);
    }

    /** Busy as above, but with an empty text. */
    static LuggageTracing busyWithoutText() {
        LuggageTracing x = busy();
        x.clearText();
        return x;
    }

    /** 12 bags and 10 claims, claim 1 matched with bag 1, and a text of two bags. */
    static LuggageTracing full() {
        LuggageTracing x = withBagsAndClaims(12, 10);
        x.match(1, 1);
        Checks.typeAll(x, TWO_BAGS);
        return withThreeSavedStates(x);
    }

    static LuggageTracing fullText() {
        LuggageTracing x = busyWithoutText();
        Checks.typeAll(x, (BAG + ";").repeat(6) + "1:??????");
        return x;
    }

    static LuggageTracing lastDay() {
        LuggageTracing x = busy();
        Checks.passDays(x, 9999 - 100);
        return x;
    }

    private static LuggageTracing withThreeSavedStates(LuggageTracing x) {
        for (int i = 0; i < 3; i++) {
            x.pass(1);
        }
        for (int i = 0; i < 3; i++) {
            x.undo();
        }
        return x;
    }

    static int savedStates(LuggageTracing x) {
        int states = 0;
        while (states < 600 && x.undo() >= 0) {
            states++;
        }
        return states;
    }

    static List<String> problems(LuggageTracing x) {
        List<String> told = new ArrayList<>();
        for (int what = 0; what < 3; what++) {
            told.add("problem(" + what + ") = " + x.problem(what));
        }
        return told;
    }

    /** All but the saved states and what problem() tells; the office is used up by asking. */
    static List<String> present(LuggageTracing x) {
        List<String> told = new ArrayList<>();
        told.add("digest() = " + x.digest());
        for (int claim = 1; claim <= 12; claim++) {
            told.add("ifEnded(" + claim + ", 7, 0) = " + x.ifEnded(claim, 7, 0));
            told.add("ifEnded(" + claim + ", 7, 1) = " + x.ifEnded(claim, 7, 1));
            told.add("suggest(" + claim + ", 0) = " + x.suggest(claim, 0));
            told.add("suggest(" + claim + ", 1) = " + x.suggest(claim, 1));
        }
        for (int weight = 0; weight < 6; weight++) {
            told.add("setWeight(" + weight + ", 7) = " + x.setWeight(weight, 7));
        }
        told.add("setThreshold(7) = " + x.setThreshold(7));
        told.add("setMoney(7, 7) = " + x.setMoney(7, 7));
        for (int claim = 1; claim <= 12; claim++) {
            told.add("deliver(" + claim + ") = " + x.deliver(claim));
        }
        told.add("found(0, 0, 0, 0, 0, 0) = " + bag(x));
        told.add("claim(0, 0, 0, 0, 1, 1, 0, 0) = " + claim(x));
        for (int bag = 1; bag <= 12; bag++) {
            told.add("auction(" + bag + ") = " + x.auction(bag));
        }
        told.add("syntaxError() = " + x.syntaxError());
        told.add("readBags() = " + x.readBags());
        told.add("digest() after readBags() = " + x.digest());
        told.add("clearText() = " + x.clearText());
        return told;
    }

    /** The saved states, from the latest one back; the office is used up by asking. */
    static List<String> saved(LuggageTracing x) {
        List<String> told = new ArrayList<>();
        int left = 0;
        for (int step = 1; step <= 8 && left >= 0; step++) {
            left = x.undo();
            told.add("undo() number " + step + " = " + left);
            told.add("digest() after it = " + x.digest());
            for (int claim = 1; claim <= 12; claim++) {
                told.add("ifEnded(" + claim + ", 7, 0) after it = " + x.ifEnded(claim, 7, 0));
                told.add("ifEnded(" + claim + ", 7, 1) after it = " + x.ifEnded(claim, 7, 1));
                told.add("suggest(" + claim + ", 0) after it = " + x.suggest(claim, 0));
            }
        }
        return told;
    }
}
