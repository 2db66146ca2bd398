import java.util.function.Supplier;
import java.util.function.ToLongFunction;

/** The sentences of promises 7 to 12: matches, deliveries, claims given up and auctions. */
final class MatchBoundaries {
    private static final int[] NO_NUMBERS = {0, -1, Integer.MIN_VALUE, Integer.MAX_VALUE};
    private static final int[] NO_SUCH_CLAIM = {0, -1, 5, Integer.MIN_VALUE, Integer.MAX_VALUE};

    private final Sentences s;

    MatchBoundaries(Sentences s) {
        this.s = s;
    }

    void run() {
        match();
        matchRefuses();
        unmatch();
        matchAll();
        matchAllOfSeveral();
        deliver();
        giveUp();
        auction();
    }

    private void match() {
        s.promise(7, "Matches a claim with a bag.");
        LuggageTracing x = Offices.withBagsAndClaims(12, 10);
        x.match(10, 1);
        x.match(1, 12);
        for (int number = 1; number <= 12; number++) {
            s.due("bag(" + number + ", 7)", x.bag(number, 7), number == 1 ? 10 : number == 12 ? 1 : Checks.NONE);
        }
        for (int number = 1; number <= 10; number++) {
            s.due("claimOf(" + number + ", 8)", x.claimOf(number, 8),
                    number == 1 ? 12 : number == 10 ? 1 : Checks.NONE);
        }
        s.due("count(3)", x.count(3), 2);

        s.promise(7, "Undoable.");
        s.undoable("match(1, 1)", Offices::busy, y -> y.match(1, 1));

        s.promise(7, "Returns their score");
        LuggageTracing y = new LuggageTracing();
        y.claim(0, 0, 0, 255, 1, 1, 0, 0);
        y.claim(999999, 0, 0, 255, 2, 1, 0, 30);
        y.found(0, 0, 0, 0, 0, 255);
        y.found(0, 0, 0, 4, 11, 0);
        Offices.weights(y, 50, 50, 50, 50, 50, 50);
        s.due("match(1, 1) with the greatest score", y.match(1, 1), 850);
        s.due("match(2, 2) with the least score", y.match(2, 2), -1200);
        LuggageTracing z = Offices.pair();
        Offices.weights(z, 0, 0, 0, 0, 0, 0);
        z.setThreshold(200);
        s.due("match(1, 1) with the score 0, which is not likely", z.match(1, 1), 0);
        LuggageTracing w = Offices.pair();
        s.due("match(1, 1)", w.match(1, 1), 85);
    }

    private void matchRefuses() {
        s.promise(7, "NO_SUCH if there is no such claim or bag");
        for (int none : NO_NUMBERS) {
            s.refused("match(" + none + ", 1)", Offices::busy, x -> x.match(none, 1), Checks.NO_SUCH);
            s.refused("match(1, " + none + ")", Offices::busy, x -> x.match(1, none), Checks.NO_SUCH);
        }
        s.refused("match(5, 1) with four claims", Offices::busy, x -> x.match(5, 1), Checks.NO_SUCH);
        s.refused("match(1, 4) with three bags", Offices::busy, x -> x.match(1, 4), Checks.NO_SUCH);
        s.refused("match(1, 1) without claims", () -> Offices.withBagsAndClaims(1, 0), x -> x.match(1, 1),
                Checks.NO_SUCH);
        s.refused("match(1, 1) without bags", () -> Offices.withBagsAndClaims(0, 1), x -> x.match(1, 1), Checks.NO_SUCH);
        Supplier<LuggageTracing> gone = () -> {
            LuggageTracing x = Offices.busy();
            x.deliver(3);
            return x;
        };
        s.refused("match(3, 1) of a claim that is gone", gone, x -> x.match(3, 1), Checks.NO_SUCH);
        s.refused("match(1, 3) of a bag that is gone", gone, x -> x.match(1, 3), Checks.NO_SUCH);

        s.promise(7, "NOT_POSSIBLE if one of them is not free");
        s.refused("match(3, 1): the claim is not free", Offices::busy, x -> x.match(3, 1), Checks.NOT_POSSIBLE);
        s.refused("match(1, 3): the bag is not free", Offices::busy, x -> x.match(1, 3), Checks.NOT_POSSIBLE);
        s.refused("match(3, 3): both are not free", Offices::busy, x -> x.match(3, 3), Checks.NOT_POSSIBLE);
        Supplier<LuggageTracing> two = () -> {
            LuggageTracing x = Offices.withBagsAndClaims(2, 2);
            x.match(1, 1);
            x.match(2, 2);
            return x;
        };
        s.refused("match(1, 2): both are matched with others", two, x -> x.match(1, 2), Checks.NOT_POSSIBLE);
        LuggageTracing freed = two.get();
        freed.unmatch(1);
        freed.unmatch(2);
        s.due("match(1, 2) when both are free again", freed.match(1, 2), 85);

        s.promise(7, ", or if they have no score.");
        Supplier<LuggageTracing> late = () -> {
            LuggageTracing x = Offices.busy();
            x.pass(1);
            Offices.claim(x);
            Offices.bag(x);
            return x;
        };
        s.refused("match(5, 2) of a bag found a day before the flight", late, x -> x.match(5, 2), Checks.NOT_POSSIBLE);
        s.due("match(5, 4) of a bag found on the day of the flight", late.get().match(5, 4), 86);
        s.due("match(4, 2) of a bag found after the day of the flight", late.get().match(4, 2) > Checks.NO_SUCH ? 1 : 0,
                1);
    }

    private void unmatch() {
        s.promise(8, "Takes the match of a claim back.");
        LuggageTracing x = Offices.withBagsAndClaims(12, 10);
        x.matchAll();
        x.unmatch(10);
        x.unmatch(1);
        for (int number = 1; number <= 10; number++) {
            int due = number == 1 || number == 10 ? Checks.NONE : number;
            s.due("claimOf(" + number + ", 8)", x.claimOf(number, 8), due);
            s.due("bag(" + number + ", 7)", x.bag(number, 7), due);
        }
        s.due("count(3)", x.count(3), 8);
        s.due("count(1)", x.count(1), 12);
        s.due("count(2)", x.count(2), 10);

        s.promise(8, "Undoable.");
        s.undoable("unmatch(3)", Offices::busy, y -> y.unmatch(3));

        s.promise(8, "Returns the number of the bag");
        LuggageTracing y = Offices.withBagsAndClaims(12, 10);
        y.match(1, 12);
        y.match(10, 1);
        s.due("unmatch(1)", y.unmatch(1), 12);
        s.due("unmatch(10)", y.unmatch(10), 1);

        s.promise(8, "NO_SUCH if there is no such claim");
        refusedForNumbers("unmatch", NO_SUCH_CLAIM, LuggageTracing::unmatch);

        s.promise(8, "NOT_POSSIBLE if it is free.");
        s.refused("unmatch(1) of a free claim", Offices::busy, z -> z.unmatch(1), Checks.NOT_POSSIBLE);
        s.refused("unmatch(3) once more", () -> {
            LuggageTracing z = Offices.busy();
            z.unmatch(3);
            return z;
        }, z -> z.unmatch(3), Checks.NOT_POSSIBLE);
    }

    private void refusedForNumbers(String call, int[] numbers, Sentences.Call asked) {
        for (int none : numbers) {
            s.refused(call + "(" + none + ")", Offices::busy, x -> asked.of(x, none), Checks.NO_SUCH);
        }
        s.refused(call + "(1) in an empty office", Offices::empty, x -> asked.of(x, 1), Checks.NO_SUCH);
    }

    private void matchAll() {
        s.promise(9, "Matches all: as long as there is a free claim and a free bag that are likely");
        int[][] bagsClaimsDue = {{0, 0, 0}, {12, 0, 0}, {0, 10, 0}, {1, 10, 1}, {12, 1, 1}, {9, 10, 9}, {10, 10, 10},
            {11, 10, 10}, {12, 10, 10}};
        for (int[] b : bagsClaimsDue) {
            LuggageTracing x = Offices.withBagsAndClaims(b[0], b[1]);
            String call = " with " + b[0] + " bags and " + b[1] + " claims";
            s.due("matchAll()" + call, x.matchAll(), b[2]);
            s.due("count(3)" + call, x.count(3), b[2]);
            s.due("matchAll() again" + call, x.matchAll(), 0);
        }
        LuggageTracing y = Offices.pair();
        y.setThreshold(86);
        s.due("matchAll() when the threshold is the score and 1", y.matchAll(), 0);
        y.setThreshold(85);
        s.due("matchAll() when the threshold is the score", y.matchAll(), 1);
        LuggageTracing z = new LuggageTracing();
        Offices.bag(z);
        z.pass(1);
        Offices.claim(z);
        z.setThreshold(0);
        s.due("matchAll() of a bag found a day before the flight", z.matchAll(), 0);
        z.claim(0, 0, 0, 0, 1, 1, 0, 1);
        s.due("matchAll() of a bag found on the day of the flight", z.matchAll(), 1);
        s.due("claimOf(2, 8)", z.claimOf(2, 8), 1);
        s.due("matchAll() of a claim and a bag that are gone", Offices.leftEmpty().matchAll(), 0);
        s.due("matchAll() of a claim that is gone", Offices.leftWithABag().matchAll(), 0);
        s.due("matchAll() of a bag that is gone", Offices.leftWithAClaim().matchAll(), 0);

        s.promise(9, "those with the greatest score are matched");
        LuggageTracing w = new LuggageTracing();
        w.claim(111111, 0, 0, 0, 1, 1, 0, 0);
        w.claim(111112, 0, 0, 0, 1, 1, 0, 0);
        w.found(0, 111112, 0, 0, 0, 0);
        w.found(0, 222222, 0, 0, 0, 0);
        s.due("score(1, 1, 0)", w.score(1, 1, 0), 65);
        s.due("score(2, 1, 0), which is greater", w.score(2, 1, 0), 85);
        s.due("matchAll()", w.matchAll(), 1);
        s.due("claimOf(1, 8)", w.claimOf(1, 8), Checks.NONE);
        s.due("claimOf(2, 8)", w.claimOf(2, 8), 1);
        LuggageTracing v = Offices.empty();
        v.claim(0, 0, 0, 0, 1, 1, 0, 1);
        Offices.claim(v);
        Offices.bag(v);
        s.due("score(1, 1, 0)", v.score(1, 1, 0), 84);
        s.due("score(2, 1, 0), which is greater by 1", v.score(2, 1, 0), 85);
        s.due("matchAll()", v.matchAll(), 1);
        s.due("bag(1, 7)", v.bag(1, 7), 2);
        for (int number = 0; number < Trying.OFFICES; number++) {
            LuggageTracing tried = Trying.office(number);
            int[] bagOf = Trying.greatestFirst(Trying.likely(tried, number));
            tried.matchAll();
            for (int claim = 1; claim <= Trying.CLAIMS; claim++) {
                s.due("claimOf(" + claim + ", 8) in the full office " + number, tried.claimOf(claim, 8),
                        bagOf[claim - 1]);
            }
        }

        s.promise(9, "Undoable.");
        s.undoable("matchAll()", Offices::busy, u -> {
            long made = u.matchAll();
            s.due("matchAll() of a busy office", made, 1);
            return made;
        });
        s.undoable("matchAll() without matches", Offices::pairOfUnlikely, LuggageTracing::matchAll);
        s.undoable("matchAll() in an empty office", Offices::empty, LuggageTracing::matchAll);

        s.promise(9, "Returns the number of matches that are made.");
        LuggageTracing u = Offices.withBagsAndClaims(4, 4);
        u.match(2, 3);
        s.due("matchAll() besides a match", u.matchAll(), 3);
        u.unmatch(4);
        s.due("matchAll() besides three matches", u.matchAll(), 1);
        s.due("matchAll() when all are matched", u.matchAll(), 0);
        s.due("matchAll() in an empty office", new LuggageTracing().matchAll(), 0);
    }

    private void matchAllOfSeveral() {
        s.promise(9, "of several the claim with the lowest number");
        LuggageTracing x = Offices.withBagsAndClaims(1, 10);
        x.matchAll();
        s.due("bag(1, 7) of ten equal claims", x.bag(1, 7), 1);
        LuggageTracing y = new LuggageTracing();
        y.claim(111111, 0, 0, 0, 1, 1, 0, 0);
        y.claim(0, 0, 0, 0, 1, 1, 0, 0);
        y.claim(0, 0, 0, 0, 1, 1, 0, 0);
        Offices.bag(y);
        y.matchAll();
        s.due("bag(1, 7) of two equal claims", y.bag(1, 7), 2);
        LuggageTracing z = Offices.withBagsAndClaims(2, 3);
        z.match(1, 2);
        z.matchAll();
        s.due("bag(1, 7) when the first claim is matched", z.bag(1, 7), 2);
        s.due("claimOf(3, 8) when the first claim is matched", z.claimOf(3, 8), Checks.NONE);

        s.promise(9, "and then the bag with the lowest number.");
        LuggageTracing v = Offices.withBagsAndClaims(12, 1);
        v.matchAll();
        s.due("claimOf(1, 8) of twelve equal bags", v.claimOf(1, 8), 1);
        LuggageTracing w = new LuggageTracing();
        w.found(0, 111111, 0, 0, 0, 0);
        Offices.bag(w);
        Offices.bag(w);
        Offices.claim(w);
        w.matchAll();
        s.due("claimOf(1, 8) of two equal bags", w.claimOf(1, 8), 2);
        LuggageTracing u = Offices.withBagsAndClaims(5, 3);
        u.match(2, 1);
        u.matchAll();
        s.due("claimOf(1, 8) when the first bag is matched", u.claimOf(1, 8), 2);
        s.due("claimOf(3, 8) when the first bag is matched", u.claimOf(3, 8), 3);
    }

    private void deliver() {
        s.promise(10, "Delivers the bag with which a claim is matched");
        LuggageTracing x = Offices.withBagsAndClaims(3, 3);
        x.match(1, 3);
        x.match(3, 1);
        x.deliver(1);
        s.due("bag(3, 0), the bag that is delivered", x.bag(3, 0), Checks.NO_SUCH);
        s.due("bag(1, 7), another bag", x.bag(1, 7), 3);
        s.due("bag(2, 7), another bag", x.bag(2, 7), Checks.NONE);
        s.due("count(4)", x.count(4), 1);

        s.promise(10, "both are gone then.");
        for (int claim = 1; claim <= 10; claim += 3) {
            LuggageTracing y = Offices.withBagsAndClaims(12, 10);
            int gone = 13 - claim;
            y.match(claim, gone);
            y.deliver(claim);
            s.due("claimOf(" + claim + ", 0)", y.claimOf(claim, 0), Checks.NO_SUCH);
            s.due("bag(" + gone + ", 0)", y.bag(gone, 0), Checks.NO_SUCH);
            s.due("score(" + claim + ", 5, 0)", y.score(claim, 5, 0), Checks.NO_SUCH);
            s.due("deliver(" + claim + ") again", y.deliver(claim), Checks.NO_SUCH);
            s.due("count(1)", y.count(1), 11);
            s.due("count(2)", y.count(2), 9);
            s.due("count(3)", y.count(3), 0);
            for (int other = 1; other <= 10; other++) {
                s.due("claimOf(" + other + ", 5)", y.claimOf(other, 5), other == claim ? Checks.NO_SUCH : 1);
            }
        }

        s.promise(10, "Undoable.");
        s.undoable("deliver(3)", Offices::busy, y -> y.deliver(3));

        s.promise(10, "Returns what is paid");
        LuggageTracing z = new LuggageTracing();
        z.claim(0, 0, 0, 0, 1, 65, 0, 2);
        z.claim(0, 0, 0, 0, 1, 65, 0, 3);
        z.claim(0, 0, 0, 0, 1, 65, 0, 0);
        Offices.bag(z);
        Offices.bag(z);
        Offices.bag(z);
        z.matchAll();
        s.due("deliver(1)", z.deliver(1), 60);
        s.due("deliver(2), at most the worth", z.deliver(2), 65);
        s.due("deliver(3) on the day of the flight", z.deliver(3), 0);
        s.due("count(7)", z.count(7), 125);

        s.promise(10, "NO_SUCH if there is no such claim");
        refusedForNumbers("deliver", NO_SUCH_CLAIM, LuggageTracing::deliver);

        s.promise(10, "NOT_POSSIBLE if it is free.");
        s.refused("deliver(1) of a free claim", Offices::busy, y -> y.deliver(1), Checks.NOT_POSSIBLE);
        s.refused("deliver(3) of a claim that is free again", () -> {
            LuggageTracing y = Offices.busy();
            y.unmatch(3);
            return y;
        }, y -> y.deliver(3), Checks.NOT_POSSIBLE);
    }

    private void giveUp() {
        s.promise(11, "Gives a claim up, which is gone then.");
        for (int claim = 1; claim <= 10; claim += 3) {
            LuggageTracing x = Offices.withBagsAndClaims(2, 10);
            x.pass(21);
            x.giveUp(claim);
            for (int other = 1; other <= 10; other++) {
                s.due("claimOf(" + other + ", 5)", x.claimOf(other, 5), other == claim ? Checks.NO_SUCH : 1);
            }
            s.due("giveUp(" + claim + ") again", x.giveUp(claim), Checks.NO_SUCH);
            s.due("count(1)", x.count(1), 2);
            s.due("count(2)", x.count(2), 9);
            s.due("count(5)", x.count(5), 1);
        }

        s.promise(11, "Undoable.");
        s.undoable("giveUp(2)", Offices::busy, x -> x.giveUp(2));

        s.promise(11, "Returns what is paid");
        s.due("giveUp(2), at most the cap", Offices.busy().giveUp(2), 1900);
        s.due("giveUp(1) of the worth 1", Offices.busy().giveUp(1), 0);
        LuggageTracing y = Offices.busy();
        y.setMoney(0, 9999);
        s.due("giveUp(2), below the cap", y.giveUp(2), 3000);
        s.due("count(7)", y.count(7), 3000);

        s.promise(11, "NO_SUCH if there is no such claim");
        refusedForNumbers("giveUp", NO_SUCH_CLAIM, LuggageTracing::giveUp);

        s.promise(11, "NOT_POSSIBLE if it is not free");
        s.refused("giveUp(3) of a matched claim after 31 days", () -> {
            LuggageTracing x = Offices.busy();
            x.pass(31);
            return x;
        }, x -> x.giveUp(3), Checks.NOT_POSSIBLE);
        s.refused("giveUp(3) of a matched claim after 0 days", Offices::busy, x -> x.giveUp(3), Checks.NOT_POSSIBLE);
        LuggageTracing z = Offices.busy();
        z.pass(31);
        z.unmatch(3);
        s.due("giveUp(3) when it is free again", z.giveUp(3), 560);

        s.promise(11, "or if fewer than 21 days have passed since the flight.");
        int[] ago = {0, 1, 20, 0, 20, 10};
        int[] wait = {0, 0, 0, 20, 0, 10};
        for (int i = 0; i < ago.length; i++) {
            int days = i;
            Supplier<LuggageTracing> office = () -> flown(ago[days], wait[days]);
            ToLongFunction<LuggageTracing> asked = x -> x.giveUp(1);
            s.refused("giveUp(1), " + ago[i] + " and " + wait[i] + " days after the flight", office, asked,
                    Checks.NOT_POSSIBLE);
        }
        s.due("giveUp(1), 21 days after the flight at once", flown(21, 0).giveUp(1), 100);
        s.due("giveUp(1), 21 days after the flight later", flown(0, 21).giveUp(1), 100);
        s.due("giveUp(1), 20 and 1 days after the flight", flown(20, 1).giveUp(1), 100);
        s.due("giveUp(1), 30 and 400 days after the flight", flown(30, 400).giveUp(1), 100);
    }

    private static LuggageTracing flown(int ago, int wait) {
        LuggageTracing x = new LuggageTracing();
        x.claim(0, 0, 0, 0, 1, 100, 0, ago);
        if (wait > 0) {
            x.pass(wait);
        }
        return x;
    }

    private void auction() {
        s.promise(12, "Sells a bag at an auction; it is gone then.");
        for (int bag = 1; bag <= 12; bag += 11) {
            LuggageTracing x = Offices.withBagsAndClaims(12, 1);
            x.pass(90);
            x.auction(bag);
            for (int other = 1; other <= 12; other++) {
                s.due("bag(" + other + ", 0)", x.bag(other, 0), other == bag ? Checks.NO_SUCH : 0);
            }
            s.due("auction(" + bag + ") again", x.auction(bag), Checks.NO_SUCH);
            s.due("count(1)", x.count(1), 11);
            s.due("count(2)", x.count(2), 1);
            s.due("count(6)", x.count(6), 1);
            s.due("count(7)", x.count(7), 0);
        }

        s.promise(12, "Undoable.");
        s.undoable("auction(1)", Offices::busy, x -> x.auction(1));

        s.promise(12, "Returns the number of bags that are left");
        LuggageTracing y = Offices.withBagsAndClaims(12, 1);
        y.match(1, 12);
        y.pass(90);
        for (int bag = 1; bag <= 11; bag++) {
            s.due("auction(" + bag + ")", y.auction(bag), 12 - bag);
        }
        y.unmatch(1);
        s.due("auction(12) of the last bag", y.auction(12), 0);

        s.promise(12, "NO_SUCH if there is no such bag");
        refusedForNumbers("auction", new int[] {0, -1, 4, Integer.MIN_VALUE, Integer.MAX_VALUE},
                LuggageTracing::auction);

        s.promise(12, "NOT_POSSIBLE if it is not free");
        s.refused("auction(3) of a matched bag after 90 days", () -> {
            LuggageTracing x = Offices.busy();
            x.pass(90);
            return x;
        }, x -> x.auction(3), Checks.NOT_POSSIBLE);
        s.refused("auction(3) of a matched bag after 0 days", Offices::busy, x -> x.auction(3), Checks.NOT_POSSIBLE);
        LuggageTracing z = Offices.busy();
        z.pass(90);
        z.unmatch(3);
        s.due("auction(3) when it is free again", z.auction(3), 2);

        s.promise(12, "or if fewer than 90 days have passed since it was found.");
        s.refused("auction(1) after 89 days", () -> waited(89), x -> x.auction(1), Checks.NOT_POSSIBLE);
        s.refused("auction(1) after 1 day", () -> waited(1), x -> x.auction(1), Checks.NOT_POSSIBLE);
        s.refused("auction(2) on the day on which it was found", Offices::busy, x -> x.auction(2),
                Checks.NOT_POSSIBLE);
        s.due("auction(1) after 90 days", waited(90).auction(1), 0);
        s.due("auction(1) after 91 days", waited(91).auction(1), 0);
        LuggageTracing w = waited(50);
        Offices.bag(w);
        w.pass(89);
        s.due("auction(2) after 89 days, on day 139", w.auction(2), Checks.NOT_POSSIBLE);
        w.pass(1);
        s.due("auction(2) after 90 days, on day 140", w.auction(2), 1);
    }

    private static LuggageTracing waited(int days) {
        LuggageTracing x = Offices.withBagsAndClaims(1, 0);
        x.pass(days);
        return x;
    }
}
