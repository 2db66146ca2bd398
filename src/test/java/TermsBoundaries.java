/** The sentences of 'What it is' and of the Terms on numbers, days, bags, claims, weights and the constants. */
final class TermsBoundaries {
    private final Sentences s;

    TermsBoundaries(Sentences s) {
        this.s = s;
    }

    void run() {
        calls();
        numbers();
        days();
        bags();
        bagsFields();
        tags();
        claims();
        claimsFields();
        weights();
        constants();
    }

    private void calls() {
        s.intro(13, "An object is used for at most 512 calls after it has been made; what later calls answer is free.");
        LuggageTracing x = new LuggageTracing();
        for (int call = 1; call <= 511; call++) {
            x.pass(1);
        }
        s.due("pass(1) as the 512th call", x.pass(1), 512);
        LuggageTracing y = new LuggageTracing();
        for (int call = 1; call <= 510; call += 2) {
            y.type(97);
            y.clearText();
        }
        y.type(97);
        s.due("clearText() as the 512th call", y.clearText(), 1);
        LuggageTracing z = new LuggageTracing();
        for (int call = 1; call <= 510; call += 2) {
            s.due("found as call " + call, Offices.bag(z), 1);
            z.undo();
        }
        Offices.bag(z);
        s.due("count(1) as the 512th call", z.count(1), 1);
    }

    private void numbers() {
        s.terms(2, "Everything is numbered from 0, if nothing else is said.");
        LuggageTracing x = Offices.pair();
        s.due("setWeight(0, 9) changes the first weight", x.setWeight(0, 9), 8);
        s.due("count(0) tells the first number", x.count(0), 0);
        s.due("suggest(1, 0) tells the first bag", x.suggest(1, 0), 1);
        s.due("score(1, 1, 1) tells the first part", x.score(1, 1, 1), 54);
        x.readBags();
        s.due("problem(1) of an error in the first bag", x.problem(1), 0);
        s.due("problem(2) of an error at the first character", x.problem(2), 0);

        s.terms(17, "Division rounds toward zero.");
        LuggageTracing y = new LuggageTracing();
        y.claim(999999, 0, 0, 255, 2, 99, 9, 30);
        y.found(0, 0, 0, 1, 1, 0);
        Offices.weights(y, 1, 2, 2, 1, 1, 1);
        s.due("score(1, 1, 1): minus 3 * 1 / 2", y.score(1, 1, 1), -6);
        s.due("score(1, 1, 2): 2 / 3", y.score(1, 1, 2), 0);
        s.due("score(1, 1, 3): 2 / 3", y.score(1, 1, 3), 0);
        s.due("score(1, 1, 4): minus 1 / 2", y.score(1, 1, 4), 0);
        Offices.weights(y, 49, 50, 50, 49, 1, 1);
        s.due("score(1, 1, 1): minus 3 * 49 / 2", y.score(1, 1, 1), -6 * 73);
        s.due("score(1, 1, 2): 50 / 3", y.score(1, 1, 2), 16);
        s.due("score(1, 1, 3): 50 / 3", y.score(1, 1, 3), 16);
        s.due("score(1, 1, 4): minus 49 / 2", y.score(1, 1, 4), -8 * 24);
        s.due("ifEnded(1, 0, 1): 99 * 2 / 10", y.ifEnded(1, 0, 1), 19);
    }

    private void days() {
        s.terms(14, "The current day is 0 in a new office");
        s.due("count(0)", new LuggageTracing().count(0), 0);
        LuggageTracing x = new LuggageTracing();
        Offices.bag(x);
        s.due("bag(1, 6)", x.bag(1, 6), 0);

        s.terms(13, "it is at most 9999.");
        LuggageTracing y = Offices.onDay(9998);
        s.due("pass(1) to the last day", y.pass(1), 9999);
        s.due("count(0) on the last day", y.count(0), 9999);
        s.refused("pass(1) beyond the last day", () -> Offices.onDay(9999), z -> z.pass(1), Checks.LIMIT);
        s.due("undo() on the last day", y.undo(), 5);
        s.due("count(0) before the last day", y.count(0), 9998);
    }

    private void bags() {
        s.terms(5, "There are at most 12 bags.");
        LuggageTracing x = Offices.withBagsAndClaims(11, 0);
        s.due("found as the 12th bag", Offices.bag(x), 12);
        s.due("count(1) of 12 bags", x.count(1), 12);
        s.refused("found as the 13th bag", () -> Offices.withBagsAndClaims(12, 0), Offices::bag, Checks.LIMIT);
        x.pass(90);
        x.auction(7);
        s.due("found when one of 12 is gone", Offices.bag(x), 13);
        s.due("found when there are 12 again", Offices.bag(x), Checks.LIMIT);

        s.terms(5, "A bag has a number (from 1 in the order in which they were found, not used again)");
        LuggageTracing y = new LuggageTracing();
        y.found(5, 0, 0, 0, 0, 0);
        Checks.typeAll(y, "6:000000:0a;7:000000:0a");
        y.readBags();
        for (int number = 1; number <= 3; number++) {
            s.due("bag(" + number + ", 0)", y.bag(number, 0), 4 + number);
        }
        s.due("bag(0, 0)", y.bag(0, 0), Checks.NO_SUCH);
        s.due("bag(4, 0)", y.bag(4, 0), Checks.NO_SUCH);
        y.pass(90);
        y.auction(3);
        s.due("found after the latest bag is sold", Offices.bag(y), 4);
        s.due("bag(3, 0) of the bag that is sold", y.bag(3, 0), Checks.NO_SUCH);
        Offices.claim(y);
        y.match(1, 4);
        y.deliver(1);
        s.due("found after the latest bag is delivered", Offices.bag(y), 5);
        s.due("bag(4, 0) of the bag that is delivered", y.bag(4, 0), Checks.NO_SUCH);
        LuggageTracing z = new LuggageTracing();
        for (int number = 1; number <= 40; number++) {
            s.due("found number " + number + " when all others are sold", Offices.bag(z), number);
            z.pass(90);
            z.auction(number);
        }
    }

    private void bagsFields() {
        LuggageTracing x = new LuggageTracing();
        for (int i = 0; i <= 7; i++) {
            x.found(i, 0, 0, 7 - i, 0, 0);
        }

        s.terms(15, "an airport, 0 to 7");
        for (int i = 0; i <= 7; i++) {
            s.due("bag(" + (i + 1) + ", 0)", x.bag(i + 1, 0), i);
        }
        s.due("found at the airport -1", x.found(-1, 0, 0, 0, 0, 0), Checks.BAD_VALUE);
        s.due("found at the airport 8", x.found(8, 0, 0, 0, 0, 0), Checks.BAD_VALUE);

        s.terms(15, "a colour, 0 to 7");
        for (int i = 0; i <= 7; i++) {
            s.due("bag(" + (i + 1) + ", 3)", x.bag(i + 1, 3), 7 - i);
        }
        s.due("found of the colour -1", x.found(0, 0, 0, -1, 0, 0), Checks.BAD_VALUE);
        s.due("found of the colour 8", x.found(0, 0, 0, 8, 0, 0), Checks.BAD_VALUE);

        s.terms(15, "a kind, 0 to 11");
        LuggageTracing y = new LuggageTracing();
        for (int kind = 0; kind <= 11; kind++) {
            y.found(0, 0, 0, 0, kind, 0);
            s.due("bag(" + (kind + 1) + ", 4)", y.bag(kind + 1, 4), kind);
        }
        y = new LuggageTracing();
        s.due("found of the kind -1", y.found(0, 0, 0, 0, -1, 0), Checks.BAD_VALUE);
        s.due("found of the kind 12", y.found(0, 0, 0, 0, 12, 0), Checks.BAD_VALUE);

        s.terms(15, "a set of marks out of 8, told as a bit mask");
        int[] marks = {0, 1, 2, 4, 8, 16, 32, 64, 128, 127, 254, 255};
        for (int i = 0; i < marks.length; i++) {
            y.found(0, 0, 0, 0, 0, marks[i]);
            s.due("bag(" + (i + 1) + ", 5)", y.bag(i + 1, 5), marks[i]);
        }

        s.terms(15, "and the day on which it was found.");
        LuggageTracing z = new LuggageTracing();
        Offices.bag(z);
        z.pass(1);
        Offices.bag(z);
        z.pass(399);
        s.due("bag(1, 6) of day 0", z.bag(1, 6), 0);
        s.due("bag(2, 6) of day 1", z.bag(2, 6), 1);
    }

    private void tags() {
        s.terms(15, "a tag of 6 digits of which some may be illegible");
        LuggageTracing x = new LuggageTracing();
        x.found(0, 987654, 0, 0, 0, 0);
        x.found(0, 987654, 63, 0, 0, 0);
        x.found(0, 987654, 30, 0, 0, 0);
        x.claim(987654, 0, 0, 0, 1, 1, 0, 0);
        s.due("bag(1, 1) without illegible digits", x.bag(1, 1), 987654);
        s.due("bag(1, 2) without illegible digits", x.bag(1, 2), 0);
        s.due("bag(2, 2) without legible digits", x.bag(2, 2), 63);
        s.due("score(1, 2, 1) without legible digits", x.score(1, 2, 1), 0);
        s.due("bag(3, 1) with four illegible digits", x.bag(3, 1), 900004);

        s.terms(19, "A tag is told as a number from 0 to 999999 with leading zeros");
        LuggageTracing y = new LuggageTracing();
        y.claim(0, 0, 0, 0, 1, 1, 0, 0);
        y.claim(7, 0, 0, 0, 1, 1, 0, 0);
        y.claim(999999, 0, 0, 0, 1, 1, 0, 0);
        y.found(0, 0, 0, 0, 0, 0);
        y.found(0, 7, 0, 0, 0, 0);
        y.found(0, 999999, 0, 0, 0, 0);
        y.found(0, 70, 0, 0, 0, 0);
        int[][] due = {{63, 31, 0, 47}, {31, 63, 0, 15}, {0, 0, 63, 0}};
        for (int claim = 1; claim <= 3; claim++) {
            for (int bag = 1; bag <= 4; bag++) {
                s.due("sameDigits(" + claim + ", " + bag + ")", y.sameDigits(claim, bag), due[claim - 1][bag - 1]);
            }
        }
        s.due("bag(1, 1) of the least tag", y.bag(1, 1), 0);
        s.due("bag(3, 1) of the greatest tag", y.bag(3, 1), 999999);
        s.due("claimOf(3, 0) of the greatest tag", y.claimOf(3, 0), 999999);

        s.terms(19, "and the illegible places as a bit mask: bit 0 is the first digit.");
        LuggageTracing z = new LuggageTracing();
        z.claim(123456, 0, 0, 0, 1, 1, 0, 0);
        int[] told = {23456, 103456, 120456, 123056, 123406, 123450};
        for (int place = 0; place < 6; place++) {
            z.found(0, 123456, 1 << place, 0, 0, 0);
            s.due("bag(" + (place + 1) + ", 1), illegible at place " + place, z.bag(place + 1, 1), told[place]);
            s.due("sameDigits(1, " + (place + 1) + "), illegible at place " + place, z.sameDigits(1, place + 1),
                    63 - (1 << place));
        }

        s.terms(15, "Illegible digits are told as 0.");
        LuggageTracing w = new LuggageTracing();
        int[][] illegibleDue = {{0, 999999}, {63, 0}, {1, 99999}, {32, 999990}, {62, 900000}, {31, 9}, {33, 99990}};
        for (int i = 0; i < illegibleDue.length; i++) {
            w.found(0, 999999, illegibleDue[i][0], 0, 0, 0);
            s.due("bag(" + (i + 1) + ", 1) with the illegible places " + illegibleDue[i][0], w.bag(i + 1, 1),
                    illegibleDue[i][1]);
        }
        Checks.typeAll(w, "0:??????:0a;0:?9?9?9:0a");
        w.readBags();
        s.due("bag(8, 1) of a text", w.bag(8, 1), 0);
        s.due("bag(9, 1) of a text", w.bag(9, 1), 90909);
    }

    private void claims() {
        s.terms(6, "There are at most 10 claims.");
        LuggageTracing x = Offices.withBagsAndClaims(0, 9);
        s.due("claim as the 10th claim", Offices.claim(x), 10);
        s.due("count(2) of 10 claims", x.count(2), 10);
        s.refused("claim as the 11th claim", () -> Offices.withBagsAndClaims(0, 10), Offices::claim, Checks.LIMIT);
        x.pass(21);
        x.giveUp(5);
        s.due("claim when one of 10 is gone", Offices.claim(x), 11);
        s.due("claim when there are 10 again", Offices.claim(x), Checks.LIMIT);

        s.terms(6, "A claim has a number (from 1, not used again)");
        LuggageTracing y = new LuggageTracing();
        for (int number = 1; number <= 3; number++) {
            y.claim(number, 0, 0, 0, 1, 1, 0, 0);
        }
        for (int number = 1; number <= 3; number++) {
            s.due("claimOf(" + number + ", 0)", y.claimOf(number, 0), number);
        }
        s.due("claimOf(0, 0)", y.claimOf(0, 0), Checks.NO_SUCH);
        s.due("claimOf(4, 0)", y.claimOf(4, 0), Checks.NO_SUCH);
        y.pass(21);
        y.giveUp(3);
        s.due("claim after the latest one is given up", Offices.claim(y), 4);
        s.due("claimOf(3, 0) of the claim that is given up", y.claimOf(3, 0), Checks.NO_SUCH);
        Offices.bag(y);
        y.match(4, 1);
        y.deliver(4);
        s.due("claim after the latest one is delivered", Offices.claim(y), 5);
        s.due("claimOf(4, 0) of the claim that is delivered", y.claimOf(4, 0), Checks.NO_SUCH);
        LuggageTracing z = new LuggageTracing();
        for (int number = 1; number <= 40; number++) {
            s.due("claim number " + number + " when all others are given up", Offices.claim(z), number);
            z.pass(21);
            z.giveUp(number);
        }
    }

    private void claimsFields() {
        s.terms(17, "a tag without illegible digits");
        LuggageTracing x = new LuggageTracing();
        x.claim(0, 0, 0, 0, 1, 1, 0, 0);
        x.found(0, 999999, 0, 0, 0, 0);
        x.found(0, 999999, 31, 0, 0, 0);
        s.due("score(1, 1, 1): each 0 of the claim's tag counts", x.score(1, 1, 1), -72);
        s.due("score(1, 2, 1): each 0 of the claim's tag counts", x.score(1, 2, 1), -12);
        s.due("claimOf(1, 0)", x.claimOf(1, 0), 0);

        s.terms(16, "a colour, a kind, a set of marks");
        x.claim(0, 7, 11, 255, 1, 1, 0, 0);
        x.claim(0, 6, 10, 128, 1, 1, 0, 0);
        int[][] due = {{0, 0, 0}, {7, 11, 255}, {6, 10, 128}};
        for (int claim = 1; claim <= 3; claim++) {
            for (int what = 1; what <= 3; what++) {
                s.due("claimOf(" + claim + ", " + what + ")", x.claimOf(claim, what), due[claim - 1][what - 1]);
            }
        }

        s.terms(17, "a route (a set of airports, told as a bit mask)");
        LuggageTracing y = new LuggageTracing();
        for (int airport = 0; airport < 8; airport++) {
            y.claim(0, 0, 0, 0, 1 << airport, 1, 0, 0);
            y.found(airport, 0, 0, 0, 0, 0);
        }
        y.claim(0, 0, 0, 0, 255, 1, 0, 0);
        for (int bag = 1; bag <= 8; bag++) {
            for (int claim = 1; claim <= 8; claim++) {
                s.due("score(" + claim + ", " + bag + ", 5)", y.score(claim, bag, 5), claim == bag ? 15 : -15);
            }
            s.due("score(9, " + bag + ", 5)", y.score(9, bag, 5), 15);
            s.due("claimOf(" + bag + ", 4)", y.claimOf(bag, 4), 1 << bag - 1);
        }

        s.terms(6, "a worth, 1 to 99999");
        s.range("claim(0, 0, 0, 0, 1, #, 0, 0)", Offices::empty, (z, v) -> z.claim(0, 0, 0, 0, 1, v, 0, 0), 1, 99999,
                Checks.BAD_VALUE);
        y.claim(0, 0, 0, 0, 1, 99999, 0, 0);
        s.due("claimOf(9, 5)", y.claimOf(9, 5), 1);
        s.due("claimOf(10, 5)", y.claimOf(10, 5), 99999);

        s.terms(6, "an age of the luggage in years, 0 to 20");
        s.range("claim(0, 0, 0, 0, 1, 1, #, 0)", Offices::empty, (z, v) -> z.claim(0, 0, 0, 0, 1, 1, v, 0), 0, 20,
                Checks.BAD_VALUE);
        LuggageTracing w = new LuggageTracing();
        w.claim(0, 0, 0, 0, 1, 1, 20, 0);
        s.due("claimOf(1, 6)", w.claimOf(1, 6), 20);

        s.terms(16, "and the day of the flight.");
        w.pass(10);
        w.claim(0, 0, 0, 0, 1, 1, 0, 10);
        w.claim(0, 0, 0, 0, 1, 1, 0, 11);
        w.pass(1);
        s.due("claimOf(1, 7)", w.claimOf(1, 7), 0);
        s.due("claimOf(2, 7)", w.claimOf(2, 7), 0);
        s.due("claimOf(3, 7)", w.claimOf(3, 7), -1);
    }

    private void weights() {
        s.terms(2, "There are six weights, 0 to 50 each");
        for (int weight = 0; weight < 6; weight++) {
            int changed = weight;
            s.range("setWeight(" + weight + ", #)", Offices::empty, (x, v) -> x.setWeight(changed, v), 0, 50,
                    Checks.BAD_VALUE);
        }
        s.range("setWeight(#, 50)", Offices::empty, (x, v) -> x.setWeight(v, 50), 0, 5, Checks.NO_SUCH);

        s.terms(17, ": digit (0), colour (1), kind (2), mark (3), airport (4) and day (5)");
        int[] times = {6, 1, 1, 8, 1, -10};
        for (int weight = 0; weight < 6; weight++) {
            LuggageTracing x = new LuggageTracing();
            x.claim(123456, 3, 5, 255, 255, 1, 0, 30);
            x.found(1, 123456, 0, 3, 5, 255);
            int[] values = {0, 0, 0, 0, 0, 0};
            values[weight] = 50;
            Offices.weights(x, values[0], values[1], values[2], values[3], values[4], values[5]);
            s.due("score(1, 1, 0) with the weight " + weight + " alone", x.score(1, 1, 0), times[weight] * 50);
        }

        s.terms(2, "initially 8, 10, 12, 5, 15 and 1.");
        LuggageTracing x = new LuggageTracing();
        int[] initial = {8, 10, 12, 5, 15, 1};
        for (int weight = 0; weight < 6; weight++) {
            s.due("setWeight(" + weight + ", 0) in a new office", x.setWeight(weight, 0), initial[weight]);
        }
    }

    private void constants() {
        s.terms(2, "`NO_SUCH = -10001`: There is no such bag, claim, weight or rank.");
        LuggageTracing x = Offices.pair();
        s.due("NO_SUCH", LuggageTracing.NO_SUCH, -10001);
        s.due("bag(2, 0)", x.bag(2, 0), -10001);
        s.due("claimOf(2, 0)", x.claimOf(2, 0), -10001);
        s.due("setWeight(6, 0)", x.setWeight(6, 0), -10001);
        s.due("suggest(1, 1)", x.suggest(1, 1), -10001);
        s.due("suggest(1, -1)", x.suggest(1, -1), -10001);

        s.terms(3, "`BAD_VALUE = -10002`: Another argument is out of its range.");
        s.due("BAD_VALUE", LuggageTracing.BAD_VALUE, -10002);
        s.due("setThreshold(201)", x.setThreshold(201), -10002);

        s.terms(7, "`NOT_POSSIBLE = -10003`: The call is not possible in the present state.");
        s.due("NOT_POSSIBLE", LuggageTracing.NOT_POSSIBLE, -10003);
        s.due("unmatch(1) of a free claim", x.unmatch(1), -10003);

        s.terms(5, "`LIMIT = -10004`: A limit would be exceeded.");
        s.due("LIMIT", LuggageTracing.LIMIT, -10004);
        s.due("found when there are 12 bags", Offices.bag(Offices.full()), -10004);

        s.terms(27, "`BAD_TEXT = -10005`: The text is not a bag list.");
        s.due("BAD_TEXT", LuggageTracing.BAD_TEXT, -10005);
        s.due("readBags() of the empty text", x.readBags(), -10005);

        s.terms(15, "`NONE = -10006`: There is no such result.");
        s.due("NONE", LuggageTracing.NONE, -10006);
        s.due("bag(1, 7) of a free bag", x.bag(1, 7), -10006);
    }
}
