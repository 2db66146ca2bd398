/** The sentences of the Terms on scores, the threshold, matches and money. */
final class ScoreBoundaries {
    private final Sentences s;

    ScoreBoundaries(Sentences s) {
        this.s = s;
    }

    void run() {
        noScore();
        digits();
        coloursAndKinds();
        marksAndAirports();
        days();
        threshold();
        matches();
        deliveries();
        claimsGivenUp();
    }

    private void noScore() {
        s.terms(17, "A claim and a bag that was found before the day of the flight have no score.");
        for (int day : new int[] {0, 9998}) {
            LuggageTracing x = Offices.onDay(day);
            Offices.bag(x);
            Offices.claim(x);
            x.pass(1);
            Offices.claim(x);
            x.claim(0, 0, 0, 0, 1, 1, 0, 1);
            for (int part = 0; part <= 6; part++) {
                s.due("score(2, 1, " + part + ") of a bag found a day before the flight", x.score(2, 1, part),
                        Checks.NONE);
                s.due("score(1, 1, " + part + ") is there on the day of the flight",
                        x.score(1, 1, part) == Checks.NONE ? 1 : 0, 0);
                s.due("score(3, 1, " + part + ") is there on the day of the flight",
                        x.score(3, 1, part) == Checks.NONE ? 1 : 0, 0);
            }
            x.setThreshold(0);
            s.due("suggest(2, 0)", x.suggest(2, 0), Checks.NO_SUCH);
        }

        s.terms(17, "Otherwise the score is the sum of:");
        LuggageTracing x = new LuggageTracing();
        x.claim(999999, 0, 0, 255, 2, 1, 0, 30);
        x.claim(0, 4, 11, 0, 1, 1, 0, 0);
        x.found(0, 0, 0, 4, 11, 0);
        int[] least = {-113, -72, 0, 0, -16, -15, -10};
        int[] greatest = {85, 48, 10, 12, 0, 15, 0};
        for (int part = 0; part <= 6; part++) {
            s.due("score(1, 1, " + part + ") when nothing is the same", x.score(1, 1, part), least[part]);
            s.due("score(2, 1, " + part + ") when all is the same", x.score(2, 1, part), greatest[part]);
        }
        Offices.weights(x, 50, 50, 50, 50, 50, 50);
        s.due("score(1, 1, 0), the least one", x.score(1, 1, 0), -450 - 200 - 50 - 500);
        x.claim(0, 4, 11, 255, 1, 1, 0, 0);
        x.found(0, 0, 0, 4, 11, 255);
        s.due("score(3, 2, 0), the greatest one", x.score(3, 2, 0), 300 + 50 + 50 + 400 + 50);
        Offices.weights(x, 0, 0, 0, 0, 0, 0);
        s.due("score(1, 1, 0) without weights", x.score(1, 1, 0), 0);
    }

    private void digits() {
        s.terms(17, "for each legible digit of the bag's tag: the weight of a digit if the claim's tag has the same digit "
                + "at this place");
        LuggageTracing x = new LuggageTracing();
        x.claim(123456, 0, 0, 0, 1, 1, 0, 0);
        int[] illegible = {0, 1, 3, 7, 15, 31, 63, 32, 48};
        int[] due = {48, 40, 32, 24, 16, 8, 0, 40, 32};
        for (int i = 0; i < illegible.length; i++) {
            x.found(0, 123456, illegible[i], 0, 0, 0);
            s.due("score(1, " + (i + 1) + ", 1) with the illegible places " + illegible[i], x.score(1, i + 1, 1), due[i]);
        }
        x.setWeight(0, 0);
        s.due("score(1, 1, 1) with the weight 0", x.score(1, 1, 1), 0);
        x.setWeight(0, 50);
        s.due("score(1, 1, 1) with the weight 50", x.score(1, 1, 1), 300);

        s.terms(17, "otherwise minus 3 * the weight / 2");
        LuggageTracing y = new LuggageTracing();
        y.claim(0, 0, 0, 0, 1, 1, 0, 0);
        int[] tags = {100000, 1, 110000, 999999, 999999, 999999, 999990};
        int[] illegibleOfThem = {0, 0, 0, 0, 31, 63, 62};
        int[] dueOfThem = {28, 28, 8, -72, -12, 0, -12};
        for (int i = 0; i < tags.length; i++) {
            y.found(0, tags[i], illegibleOfThem[i], 0, 0, 0);
            s.due("score(1, " + (i + 1) + ", 1)", y.score(1, i + 1, 1), dueOfThem[i]);
        }
        int[] weights = {0, 1, 2, 3, 49, 50};
        int[] minus = {0, 1, 3, 4, 73, 75};
        for (int i = 0; i < weights.length; i++) {
            y.setWeight(0, weights[i]);
            s.due("score(1, 4, 1) with the weight " + weights[i], y.score(1, 4, 1), -6 * minus[i]);
        }
    }

    private void coloursAndKinds() {
        int[] colourDue = {50, 16, 0, 0, 0, 0, 0, 16};
        s.terms(17, "for colours that are the same: the weight of the colour");
        s.due("score of the colours 0 and 0", partOf(2, 0, 0, 0, 0), 50);
        s.due("score of the colours 7 and 7", partOf(2, 7, 7, 0, 0), 50);
        s.terms(17, "for colours that differ by 1 or by 7: the weight / 3");
        for (int one = 0; one <= 7; one++) {
            for (int other = 0; other <= 7; other++) {
                s.due("score of the colours " + one + " and " + other, partOf(2, one, other, 0, 0),
                        colourDue[Math.abs(one - other)]);
            }
        }
        int[] weights = {0, 1, 2, 3, 5, 50};
        for (int weight : weights) {
            LuggageTracing x = new LuggageTracing();
            x.claim(0, 0, 0, 0, 1, 1, 0, 0);
            x.found(0, 0, 0, 7, 3, 0);
            x.setWeight(1, weight);
            s.due("score(1, 1, 2) with the weight " + weight, x.score(1, 1, 2), weight / 3);
        }

        s.terms(17, "for kinds that are the same: the weight of the kind");
        s.due("score of the kinds 0 and 0", partOf(3, 0, 0, 0, 0), 50);
        s.due("score of the kinds 11 and 11", partOf(3, 0, 0, 11, 11), 50);
        s.terms(17, "for unlike kinds k and l with k / 4 = l / 4: the weight / 3");
        int[][] kindsDue = {{0, 3, 16}, {3, 0, 16}, {4, 7, 16}, {8, 11, 16}, {11, 8, 16}, {3, 4, 0}, {4, 3, 0},
            {7, 8, 0}, {8, 7, 0}, {0, 4, 0}, {0, 11, 0}, {11, 0, 0}, {3, 7, 0}, {1, 2, 16}, {9, 10, 16}};
        for (int[] k : kindsDue) {
            s.due("score of the kinds " + k[0] + " and " + k[1], partOf(3, 0, 0, k[0], k[1]), k[2]);
        }
        for (int weight : weights) {
            LuggageTracing x = new LuggageTracing();
            x.claim(0, 0, 0, 0, 1, 1, 0, 0);
            x.found(0, 0, 0, 7, 3, 0);
            x.setWeight(2, weight);
            s.due("score(1, 1, 3) with the weight " + weight, x.score(1, 1, 3), weight / 3);
        }
    }

    private static int partOf(int part, int claimsColour, int bagsColour, int claimsKind, int bagsKind) {
        LuggageTracing x = new LuggageTracing();
        x.claim(0, claimsColour, claimsKind, 0, 1, 1, 0, 0);
        x.found(0, 0, 0, bagsColour, bagsKind, 0);
        x.setWeight(part - 1, 50);
        return x.score(1, 1, part);
    }

    private void marksAndAirports() {
        s.terms(17, "for each mark that both have: the weight of a mark");
        for (int marks : new int[] {0, 1, 128, 129, 127, 255}) {
            s.due("score of the marks " + marks + " of both", marksPart(marks, marks, 5), 5 * Integer.bitCount(marks));
        }
        s.due("score of the marks 255 with the weight 50", marksPart(255, 255, 50), 400);
        s.due("score of the marks 255 with the weight 0", marksPart(255, 255, 0), 0);

        s.terms(17, "for each mark that only one of both has: minus the weight / 2");
        int[][] marksWeightDue = {{1, 0, 5, -2}, {0, 128, 5, -2}, {255, 0, 5, -16}, {0, 255, 5, -16}, {85, 170, 5, -16},
            {1, 255, 5, 5 - 14}, {255, 128, 5, 5 - 14}, {255, 0, 1, 0}, {255, 0, 2, -8}, {255, 0, 3, -8},
            {0, 255, 49, -192}, {0, 255, 50, -200}, {0, 255, 0, 0}};
        for (int[] m : marksWeightDue) {
            s.due("score of the marks " + m[0] + " and " + m[1] + " with the weight " + m[2],
                    marksPart(m[0], m[1], m[2]), m[3]);
        }

        s.terms(17, "if the airport is in the route: the weight of the airport");
        int[][] airportRoute = {{0, 1}, {7, 128}, {0, 255}, {7, 255}, {0, 129}, {7, 129}};
        for (int[] a : airportRoute) {
            s.due("score of the airport " + a[0] + " in the route " + a[1], airportPart(a[0], a[1], 50), 50);
            s.due("score of the airport " + a[0] + " with the weight 0", airportPart(a[0], a[1], 0), 0);
        }

        s.terms(17, "otherwise minus this weight");
        int[][] airportOther = {{0, 254}, {7, 127}, {0, 2}, {7, 64}, {1, 1}, {6, 128}, {1, 129}};
        for (int[] a : airportOther) {
            s.due("score of the airport " + a[0] + " not in the route " + a[1], airportPart(a[0], a[1], 50), -50);
            s.due("score of the airport " + a[0] + " with the weight 1", airportPart(a[0], a[1], 1), -1);
        }
    }

    private static int marksPart(int claims, int bags, int weight) {
        LuggageTracing x = new LuggageTracing();
        x.claim(0, 0, 0, claims, 1, 1, 0, 0);
        x.found(0, 0, 0, 0, 0, bags);
        x.setWeight(3, weight);
        return x.score(1, 1, 4);
    }

    private static int airportPart(int airport, int route, int weight) {
        LuggageTracing x = new LuggageTracing();
        x.claim(0, 0, 0, 0, route, 1, 0, 0);
        x.found(airport, 0, 0, 0, 0, 0);
        x.setWeight(4, weight);
        return x.score(1, 1, 5);
    }

    private void days() {
        s.terms(17, "for each day by which the bag was found later than on the day of the flight (the difference of both "
                + "days)");
        LuggageTracing x = new LuggageTracing();
        Offices.bag(x);
        for (int ago = 0; ago <= 9; ago++) {
            x.claim(0, 0, 0, 0, 1, 1, 0, ago);
            s.due("score(" + (ago + 1) + ", 1, 6), found " + ago + " days later", x.score(ago + 1, 1, 6), -ago);
        }
        x.setWeight(5, 50);
        s.due("score(10, 1, 6), found 9 days later, with the weight 50", x.score(10, 1, 6), -450);
        x.setWeight(5, 0);
        s.due("score(10, 1, 6), found 9 days later, with the weight 0", x.score(10, 1, 6), 0);

        s.terms(17, "but at most for 10 days: minus the weight of a day.");
        LuggageTracing y = new LuggageTracing();
        y.setWeight(5, 50);
        y.claim(0, 0, 0, 0, 1, 1, 0, 0);
        y.claim(0, 0, 0, 0, 1, 1, 0, 30);
        int[] wait = {9, 1, 1, 400};
        int[] due = {-450, -500, -500, -500};
        for (int i = 0; i < wait.length; i++) {
            y.pass(wait[i]);
            Offices.bag(y);
            s.due("score(1, " + (i + 1) + ", 6), found on day " + y.count(0), y.score(1, i + 1, 6), due[i]);
            s.due("score(2, " + (i + 1) + ", 6), 30 days more", y.score(2, i + 1, 6), -500);
        }
    }

    private void threshold() {
        s.terms(3, "There is a threshold, 0 to 200, initially 40.");
        s.due("setThreshold(0) at first", new LuggageTracing().setThreshold(0), 40);
        s.range("setThreshold(#)", Offices::empty, (x, v) -> x.setThreshold(v), 0, 200, Checks.BAD_VALUE);
        s.due("matchAll() with the score 39 in a new office", withScore(39, 40).matchAll(), 0);
        s.due("matchAll() with the score 40 in a new office", withScore(40, 40).matchAll(), 1);

        s.terms(18, "A claim and a bag are likely if they have a score that is at least the threshold.");
        int[][] scoreThreshold = {{0, 0}, {1, 1}, {40, 40}, {199, 199}, {200, 200}, {201, 200}, {1, 0}, {41, 40}};
        for (int[] p : scoreThreshold) {
            String call = " with the score " + p[0] + " and the threshold " + p[1];
            s.due("score(1, 1, 0)" + call, withScore(p[0], p[1]).score(1, 1, 0), p[0]);
            s.due("suggest(1, 0)" + call, withScore(p[0], p[1]).suggest(1, 0), 1);
            s.due("bestTotal()" + call, withScore(p[0], p[1]).bestTotal(), p[0]);
            s.due("totalOfAll()" + call, withScore(p[0], p[1]).totalOfAll(), p[0]);
            s.due("matchAll()" + call, withScore(p[0], p[1]).matchAll(), 1);
        }
        int[][] below = {{-1, 0}, {0, 1}, {39, 40}, {198, 199}, {199, 200}, {-50, 0}};
        for (int[] p : below) {
            String call = " with the score " + p[0] + " and the threshold " + p[1];
            s.due("score(1, 1, 0)" + call, withScore(p[0], p[1]).score(1, 1, 0), p[0]);
            s.due("suggest(1, 0)" + call, withScore(p[0], p[1]).suggest(1, 0), Checks.NO_SUCH);
            s.due("bestTotal()" + call, withScore(p[0], p[1]).bestTotal(), 0);
            s.due("totalOfAll()" + call, withScore(p[0], p[1]).totalOfAll(), 0);
            s.due("matchAll()" + call, withScore(p[0], p[1]).matchAll(), 0);
        }
    }

    /** Claim 1 and bag 1 with a score from -50 to 300, by weights of the airport, the colour and the digits. */
    private static LuggageTracing withScore(int score, int threshold) {
        LuggageTracing x = new LuggageTracing();
        x.claim(0, 0, 0, 0, score < 0 ? 2 : 1, 1, 0, 0);
        Offices.bag(x);
        if (score < 0) {
            Offices.weights(x, 0, 0, 0, 0, -score, 0);
        } else {
            Offices.weights(x, score / 6, score % 6, 0, 0, 0, 0);
        }
        x.setThreshold(threshold);
        return x;
    }

    private void matches() {
        s.terms(7, "A claim can be matched with a bag");
        LuggageTracing x = Offices.pair();
        s.due("match(1, 1)", x.match(1, 1), 85);
        s.due("claimOf(1, 8)", x.claimOf(1, 8), 1);
        s.due("bag(1, 7)", x.bag(1, 7), 1);

        s.terms(7, "each is matched with at most one.");
        LuggageTracing y = Offices.withBagsAndClaims(2, 2);
        y.match(1, 1);
        s.due("match(1, 2): a second bag", y.match(1, 2), Checks.NOT_POSSIBLE);
        s.due("match(2, 1): a second claim", y.match(2, 1), Checks.NOT_POSSIBLE);
        s.due("match(1, 1) once more", y.match(1, 1), Checks.NOT_POSSIBLE);
        s.due("match(2, 2)", y.match(2, 2), 85);
        s.due("claimOf(1, 8)", y.claimOf(1, 8), 1);
        s.due("claimOf(2, 8)", y.claimOf(2, 8), 2);
        LuggageTracing z = Offices.withBagsAndClaims(12, 10);
        z.matchAll();
        for (int number = 1; number <= 10; number++) {
            s.due("claimOf(" + number + ", 8) of 10 claims", z.claimOf(number, 8), number);
            s.due("bag(" + number + ", 7) of 12 bags", z.bag(number, 7), number);
        }

        s.terms(15, "Claims and bags without a match are free.");
        s.due("bag(11, 7) of 12 bags", z.bag(11, 7), Checks.NONE);
        s.due("bag(12, 7) of 12 bags", z.bag(12, 7), Checks.NONE);
        z.unmatch(4);
        s.due("claimOf(4, 8) without its match", z.claimOf(4, 8), Checks.NONE);
        s.due("bag(4, 7) without its match", z.bag(4, 7), Checks.NONE);
        s.due("match(4, 12) of free ones", z.match(4, 12), 85);
        s.due("bag(12, 7) with a match", z.bag(12, 7), 4);
    }

    private void deliveries() {
        s.terms(4, "There are a rate for each day of delay, 0 to 500, initially 30");
        s.due("setMoney(0, 0) at first", new LuggageTracing().setMoney(0, 0), 30);
        s.range("setMoney(#, 0)", Offices::empty, (x, v) -> x.setMoney(v, 0), 0, 500, Checks.BAD_VALUE);
        s.due("deliver(1) with the initial rate", delivered(30, 99999, 1, 0), 30);

        s.terms(10, "For a delivery, the rate * (the current day minus the day of the flight");
        s.due("deliver(1) on the day of the flight", delivered(30, 99999, 0, 0), 0);
        s.due("deliver(1) a day later", delivered(30, 99999, 1, 0), 30);
        s.due("deliver(1) when the day has passed since", delivered(30, 99999, 0, 1), 30);
        s.due("deliver(1) after 4 and 5 days", delivered(500, 99999, 4, 5), 4500);
        s.due("deliver(1) with the rate 0", delivered(0, 99999, 9, 0), 0);

        s.terms(10, "but at most 10) is paid");
        s.due("deliver(1) after 9 days", delivered(500, 99999, 9, 0), 4500);
        s.due("deliver(1) after 10 days", delivered(500, 99999, 10, 0), 5000);
        s.due("deliver(1) after 11 days", delivered(500, 99999, 11, 0), 5000);
        s.due("deliver(1) after 430 days", delivered(500, 99999, 30, 400), 5000);

        s.terms(10, "but at most the worth of the claim.");
        s.due("deliver(1) of a worth of one less", delivered(500, 4999, 10, 0), 4999);
        s.due("deliver(1) of the same worth", delivered(500, 5000, 10, 0), 5000);
        s.due("deliver(1) of a worth of one more", delivered(500, 5001, 10, 0), 5000);
        s.due("deliver(1) of the least worth", delivered(500, 1, 1, 0), 1);
        s.due("deliver(1) of the least worth on the day of the flight", delivered(500, 1, 0, 0), 0);
    }

    private static int delivered(int rate, int worth, int ago, int wait) {
        LuggageTracing x = new LuggageTracing();
        x.claim(0, 0, 0, 0, 1, worth, 20, ago);
        Offices.bag(x);
        x.match(1, 1);
        x.setMoney(rate, 0);
        if (wait > 0) {
            x.pass(wait);
        }
        return x.deliver(1);
    }

    private void claimsGivenUp() {
        s.terms(4, "and a cap, 0 to 9999, initially 2000.");
        s.range("setMoney(0, #)", Offices::empty, (x, v) -> x.setMoney(0, v), 0, 9999, Checks.BAD_VALUE);
        LuggageTracing x = new LuggageTracing();
        x.claim(0, 0, 0, 0, 1, 1999, 0, 30);
        x.claim(0, 0, 0, 0, 1, 2000, 0, 30);
        x.claim(0, 0, 0, 0, 1, 2001, 0, 30);
        s.due("giveUp(1) of the worth 1999 with the initial cap", x.giveUp(1), 1999);
        s.due("giveUp(2) of the worth 2000 with the initial cap", x.giveUp(2), 2000);
        s.due("giveUp(3) of the worth 2001 with the initial cap", x.giveUp(3), 2000);

        s.terms(11, "For a claim that is given up, worth * (10 - the age");
        for (int age = 0; age <= 7; age++) {
            s.due("giveUp(1) of the age " + age, givenUp(9999, 1000, age), 1000 - 100 * age);
        }
        s.due("giveUp(1) of the worth 1 and the age 0", givenUp(9999, 1, 0), 1);
        s.due("giveUp(1) of the worth 1 and the age 1", givenUp(9999, 1, 1), 0);
        s.due("giveUp(1) of the worth 99 and the age 1", givenUp(9999, 99, 1), 89);

        s.terms(11, "but at least 2) / 10 is paid");
        s.due("giveUp(1) of the age 7", givenUp(9999, 1000, 7), 300);
        s.due("giveUp(1) of the age 8", givenUp(9999, 1000, 8), 200);
        s.due("giveUp(1) of the age 9", givenUp(9999, 1000, 9), 200);
        s.due("giveUp(1) of the age 10", givenUp(9999, 1000, 10), 200);
        s.due("giveUp(1) of the age 11", givenUp(9999, 1000, 11), 200);
        s.due("giveUp(1) of the age 20", givenUp(9999, 1000, 20), 200);
        s.due("giveUp(1) of the worth 4 and the age 20", givenUp(9999, 4, 20), 0);
        s.due("giveUp(1) of the worth 5 and the age 20", givenUp(9999, 5, 20), 1);

        s.terms(11, "but at most the cap.");
        s.due("giveUp(1) with a cap of one less", givenUp(999, 1000, 0), 999);
        s.due("giveUp(1) with the same cap", givenUp(1000, 1000, 0), 1000);
        s.due("giveUp(1) with a cap of one more", givenUp(1001, 1000, 0), 1000);
        s.due("giveUp(1) with the cap 0", givenUp(0, 99999, 0), 0);
        s.due("giveUp(1) of the greatest worth with the greatest cap", givenUp(9999, 99999, 0), 9999);
        s.due("giveUp(1) of the greatest worth and age", givenUp(9999, 99999, 20), 9999);
        s.due("giveUp(1) of the worth 49999 and the age 20", givenUp(9999, 49999, 20), 9999);
        s.due("giveUp(1) of the worth 49994 and the age 20", givenUp(9999, 49994, 20), 9998);
    }

    private static int givenUp(int cap, int worth, int age) {
        LuggageTracing x = new LuggageTracing();
        x.claim(0, 0, 0, 0, 1, worth, age, 30);
        x.setMoney(0, cap);
        return x.giveUp(1);
    }
}
