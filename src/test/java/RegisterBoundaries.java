/** The sentences of promises 5, 6 and 13: bags, claims and days. */
final class RegisterBoundaries {
    private final Sentences s;

    RegisterBoundaries(Sentences s) {
        this.s = s;
    }

    void run() {
        found();
        claim();
        claimsLastArguments();
        pass();
    }

    private void found() {
        s.promise(5, "Registers a bag that is found on the current day.");
        for (int day : new int[] {0, 1, 9999}) {
            LuggageTracing x = Offices.onDay(day);
            x.found(7, 999999, 0, 7, 11, 255);
            int[] due = {7, 999999, 0, 7, 11, 255, day, Checks.NONE};
            for (int what = 0; what <= 7; what++) {
                s.due("bag(1, " + what + ") of a bag of day " + day, x.bag(1, what), due[what]);
            }
            s.due("count(1)", x.count(1), 1);
        }

        s.promise(5, "Undoable.");
        s.undoable("found(7, 999999, 63, 7, 11, 255)", Offices::busy, x -> x.found(7, 999999, 63, 7, 11, 255));
        s.undoable("found as the first call", Offices::empty, Offices::bag);

        s.promise(5, "- `airport`: 0 to 7");
        s.range("found(#, 0, 0, 0, 0, 0)", Offices::busy, (x, v) -> x.found(v, 0, 0, 0, 0, 0), 0, 7,
                Checks.BAD_VALUE);
        s.promise(5, "- `tag`: 0 to 999999");
        s.range("found(0, #, 0, 0, 0, 0)", Offices::busy, (x, v) -> x.found(0, v, 0, 0, 0, 0), 0, 999999,
                Checks.BAD_VALUE);
        s.range("found(0, #, 63, 0, 0, 0)", Offices::busy, (x, v) -> x.found(0, v, 63, 0, 0, 0), 0, 999999,
                Checks.BAD_VALUE);
        s.promise(5, "- `illegible`: the illegible places, 0 to 63");
        s.range("found(0, 0, #, 0, 0, 0)", Offices::busy, (x, v) -> x.found(0, 0, v, 0, 0, 0), 0, 63,
                Checks.BAD_VALUE);
        s.promise(5, "- `colour`: 0 to 7");
        s.range("found(0, 0, 0, #, 0, 0)", Offices::busy, (x, v) -> x.found(0, 0, 0, v, 0, 0), 0, 7,
                Checks.BAD_VALUE);
        s.promise(5, "- `kind`: 0 to 11");
        s.range("found(0, 0, 0, 0, #, 0)", Offices::busy, (x, v) -> x.found(0, 0, 0, 0, v, 0), 0, 11,
                Checks.BAD_VALUE);
        s.promise(5, "- `marks`: 0 to 255");
        s.range("found(0, 0, 0, 0, 0, #)", Offices::busy, (x, v) -> x.found(0, 0, 0, 0, 0, v), 0, 255,
                Checks.BAD_VALUE);

        s.promise(5, "digits at illegible places do not matter");
        for (int place = 0; place < 6; place++) {
            LuggageTracing x = new LuggageTracing();
            int unit = new int[] {100000, 10000, 1000, 100, 10, 1}[place];
            x.found(0, 555555, 1 << place, 0, 0, 0);
            x.found(0, 555555 + 4 * unit, 1 << place, 0, 0, 0);
            x.claim(555555 - 5 * unit, 0, 0, 0, 1, 1, 0, 0);
            s.due("bag(1, 1), illegible at place " + place, x.bag(1, 1), 555555 - 5 * unit);
            s.due("bag(2, 1), illegible at place " + place, x.bag(2, 1), 555555 - 5 * unit);
            s.due("score(1, 2, 1), illegible at place " + place, x.score(1, 2, 1), 40);
        }

        s.promise(5, "Returns its number");
        LuggageTracing y = new LuggageTracing();
        for (int number = 1; number <= 12; number++) {
            s.due("found number " + number, Offices.bag(y), number);
        }

        s.promise(5, "BAD_VALUE if an argument is out of range");
        s.refused("found(-1, 0, 0, 0, 0, 0)", Offices::empty, x -> x.found(-1, 0, 0, 0, 0, 0), Checks.BAD_VALUE);
        s.refused("found(0, 1000000, 0, 0, 0, 0)", Offices::empty, x -> x.found(0, 1000000, 0, 0, 0, 0),
                Checks.BAD_VALUE);
        s.refused("found(8, -1, 64, -1, 12, 256)", Offices::empty, x -> x.found(8, -1, 64, -1, 12, 256),
                Checks.BAD_VALUE);

        s.promise(5, "LIMIT if there are 12 bags.");
        s.due("found when there are 11 bags", Offices.bag(Offices.withBagsAndClaims(11, 0)), 12);
        s.refused("found when there are 12 bags", Offices::full, Offices::bag, Checks.LIMIT);
    }

    private void claim() {
        s.promise(6, "Registers a claim.");
        LuggageTracing x = Offices.onDay(40);
        x.claim(999999, 7, 11, 255, 255, 99999, 20, 30);
        x.claim(0, 0, 0, 0, 1, 1, 0, 0);
        int[][] due = {{999999, 7, 11, 255, 255, 99999, 20, 10, Checks.NONE}, {0, 0, 0, 0, 1, 1, 0, 40, Checks.NONE}};
        for (int what = 0; what <= 8; what++) {
            s.due("claimOf(1, " + what + ") of greatest values", x.claimOf(1, what), due[0][what]);
            s.due("claimOf(2, " + what + ") of least values", x.claimOf(2, what), due[1][what]);
        }
        s.due("count(2)", x.count(2), 2);

        s.promise(6, "Undoable.");
        s.undoable("claim(0, 0, 0, 0, 1, 1, 0, 0)", Offices::busy, Offices::claim);
        s.undoable("claim as the first call", Offices::empty, Offices::claim);

        s.promise(6, "- `tag`: 0 to 999999");
        s.range("claim(#, 0, 0, 0, 1, 1, 0, 0)", Offices::busy, (y, v) -> y.claim(v, 0, 0, 0, 1, 1, 0, 0), 0, 999999,
                Checks.BAD_VALUE);
        s.promise(6, "- `colour`: 0 to 7");
        s.range("claim(0, #, 0, 0, 1, 1, 0, 0)", Offices::busy, (y, v) -> y.claim(0, v, 0, 0, 1, 1, 0, 0), 0, 7,
                Checks.BAD_VALUE);
        s.promise(6, "- `kind`: 0 to 11");
        s.range("claim(0, 0, #, 0, 1, 1, 0, 0)", Offices::busy, (y, v) -> y.claim(0, 0, v, 0, 1, 1, 0, 0), 0, 11,
                Checks.BAD_VALUE);
        s.promise(6, "- `marks`: 0 to 255");
        s.range("claim(0, 0, 0, #, 1, 1, 0, 0)", Offices::busy, (y, v) -> y.claim(0, 0, 0, v, 1, 1, 0, 0), 0, 255,
                Checks.BAD_VALUE);
        s.promise(6, "- `route`: 1 to 255");
        s.range("claim(0, 0, 0, 0, #, 1, 0, 0)", Offices::busy, (y, v) -> y.claim(0, 0, 0, 0, v, 1, 0, 0), 1, 255,
                Checks.BAD_VALUE);
        s.promise(6, "- `worth`: 1 to 99999");
        s.range("claim(0, 0, 0, 0, 1, #, 0, 0)", Offices::busy, (y, v) -> y.claim(0, 0, 0, 0, 1, v, 0, 0), 1, 99999,
                Checks.BAD_VALUE);
    }

    private void claimsLastArguments() {
        s.promise(6, "- `age`: 0 to 20");
        s.range("claim(0, 0, 0, 0, 1, 1, #, 0)", Offices::busy, (y, v) -> y.claim(0, 0, 0, 0, 1, 1, v, 0), 0, 20,
                Checks.BAD_VALUE);
        s.promise(6, "- `ago`: 0 to 30");
        s.range("claim(0, 0, 0, 0, 1, 1, 0, #)", Offices::busy, (y, v) -> y.claim(0, 0, 0, 0, 1, 1, 0, v), 0, 30,
                Checks.BAD_VALUE);

        s.promise(6, ": the day of the flight is the current day minus ago");
        int[][] dayAgoDue = {{0, 0, 0}, {30, 30, 0}, {31, 30, 1}, {9999, 0, 9999}, {9999, 30, 9969}};
        for (int[] d : dayAgoDue) {
            LuggageTracing x = Offices.onDay(d[0]);
            x.claim(0, 0, 0, 0, 1, 1, 0, d[1]);
            s.due("claimOf(1, 7) on day " + d[0] + " and " + d[1] + " ago", x.claimOf(1, 7), d[2]);
        }

        s.promise(6, "(it can be negative)");
        LuggageTracing z = Offices.onDay(29);
        z.claim(0, 0, 0, 0, 1, 1, 0, 30);
        s.due("claimOf(1, 7) on day 29 and 30 ago", z.claimOf(1, 7), -1);
        z = new LuggageTracing();
        z.claim(0, 0, 0, 0, 1, 1, 0, 1);
        z.claim(0, 0, 0, 0, 1, 1, 0, 30);
        s.due("claimOf(1, 7) on day 0 and 1 ago", z.claimOf(1, 7), -1);
        s.due("claimOf(2, 7) on day 0 and 30 ago", z.claimOf(2, 7), -30);

        s.promise(6, "Returns its number");
        LuggageTracing y = new LuggageTracing();
        for (int number = 1; number <= 10; number++) {
            s.due("claim number " + number, Offices.claim(y), number);
        }

        s.promise(6, "BAD_VALUE if an argument is out of range");
        s.refused("claim(-1, 0, 0, 0, 1, 1, 0, 0)", Offices::empty, x -> x.claim(-1, 0, 0, 0, 1, 1, 0, 0),
                Checks.BAD_VALUE);
        s.refused("claim(0, 0, 0, 0, 1, 1, 0, 31)", Offices::empty, x -> x.claim(0, 0, 0, 0, 1, 1, 0, 31),
                Checks.BAD_VALUE);
        s.refused("claim(1000000, 8, -1, 256, 0, 0, 21, -1)", Offices::empty,
                x -> x.claim(1000000, 8, -1, 256, 0, 0, 21, -1), Checks.BAD_VALUE);

        s.promise(6, "LIMIT if there are 10 claims.");
        s.due("claim when there are 9 claims", Offices.claim(Offices.withBagsAndClaims(0, 9)), 10);
        s.refused("claim when there are 10 claims", Offices::full, Offices::claim, Checks.LIMIT);
    }

    private void pass() {
        s.promise(13, "Lets days pass.");
        LuggageTracing x = Offices.pair();
        x.pass(400);
        s.due("count(0)", x.count(0), 400);
        s.due("bag(1, 6) stays", x.bag(1, 6), 0);
        s.due("claimOf(1, 7) stays", x.claimOf(1, 7), 0);
        s.due("score(1, 1, 0) stays", x.score(1, 1, 0), 85);
        s.due("ifEnded(1, 0, 0) goes on", x.ifEnded(1, 0, 0), 1);

        s.promise(13, "Undoable.");
        s.undoable("pass(1)", Offices::busy, y -> y.pass(1));
        s.undoable("pass(400)", Offices::busy, y -> y.pass(400));

        s.promise(13, "- `days`: 1 to 400");
        s.range("pass(#)", Offices::busy, (y, v) -> y.pass(v), 1, 400, Checks.BAD_VALUE);

        s.promise(13, "Returns the current day then");
        LuggageTracing z = new LuggageTracing();
        s.due("pass(1)", z.pass(1), 1);
        s.due("pass(400)", z.pass(400), 401);
        s.due("pass(1) again", z.pass(1), 402);

        s.promise(13, "BAD_VALUE if days is out of range");
        s.refused("pass(0)", Offices::empty, y -> y.pass(0), Checks.BAD_VALUE);
        s.refused("pass(401)", Offices::empty, y -> y.pass(401), Checks.BAD_VALUE);

        s.promise(13, "LIMIT if the day would be greater than 9999.");
        s.due("pass(400) on day 9599", Offices.onDay(9599).pass(400), 9999);
        s.due("pass(1) on day 9998", Offices.onDay(9998).pass(1), 9999);
        s.refused("pass(400) on day 9600", () -> Offices.onDay(9600), y -> y.pass(400), Checks.LIMIT);
        s.refused("pass(2) on day 9998", () -> Offices.onDay(9998), y -> y.pass(2), Checks.LIMIT);
        s.refused("pass(1) on day 9999", Offices::lastDay, y -> y.pass(1), Checks.LIMIT);
        s.refused("pass(400) on day 9999", Offices::lastDay, y -> y.pass(400), Checks.LIMIT);
    }
}
