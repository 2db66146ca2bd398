/** The sentences of promises 1 to 4: a new object and the settings. */
final class SettingsBoundaries {
    private static final int[] INITIAL = {8, 10, 12, 5, 15, 1};

    private final Sentences s;

    SettingsBoundaries(Sentences s) {
        this.s = s;
    }

    void run() {
        newObject();
        setWeight();
        setThreshold();
        setMoney();
    }

    private void newObject() {
        s.promise(1, "Creates an office without bags and claims.");
        LuggageTracing x = new LuggageTracing();
        for (int what = 0; what <= 7; what++) {
            s.due("count(" + what + ")", x.count(what), 0);
        }
        for (int number = -1; number <= 2; number++) {
            s.due("bag(" + number + ", 0)", x.bag(number, 0), Checks.NO_SUCH);
            s.due("claimOf(" + number + ", 0)", x.claimOf(number, 0), Checks.NO_SUCH);
        }
        s.due("bestTotal()", x.bestTotal(), 0);
        s.due("totalOfAll()", x.totalOfAll(), 0);
        s.due("matchAll()", x.matchAll(), 0);
        LuggageTracing other = Offices.full();
        s.due("another office: count(1)", other.count(1), 12);
        s.due("count(1) beside another office", x.count(1), 0);
        s.due("count(1) of the next new office", new LuggageTracing().count(1), 0);
    }

    private void setWeight() {
        s.promise(2, "Changes a weight.");
        for (int weight = 0; weight < 6; weight++) {
            LuggageTracing x = new LuggageTracing();
            x.setWeight(weight, 33);
            for (int other = 0; other < 6; other++) {
                s.due("setWeight(" + other + ", 0) after setWeight(" + weight + ", 33)", x.setWeight(other, 0),
                        other == weight ? 33 : INITIAL[other]);
            }
        }

        s.promise(2, "Undoable.");
        for (int weight = 0; weight < 6; weight++) {
            int changed = weight;
            s.undoable("setWeight(" + weight + ", 50)", Offices::busy, x -> x.setWeight(changed, 50));
        }
        s.undoable("setWeight(0, 8) to what it was", Offices::busy, x -> x.setWeight(0, 8));

        s.promise(2, "- `weight`: 0 to 5");
        s.range("setWeight(#, 7)", Offices::busy, (x, v) -> x.setWeight(v, 7), 0, 5, Checks.NO_SUCH);

        s.promise(2, "- `value`: 0 to 50");
        for (int weight = 0; weight < 6; weight++) {
            int changed = weight;
            s.range("setWeight(" + weight + ", #)", Offices::busy, (x, v) -> x.setWeight(changed, v), 0, 50,
                    Checks.BAD_VALUE);
        }

        s.promise(2, "Returns the previous value");
        LuggageTracing x = new LuggageTracing();
        for (int weight = 0; weight < 6; weight++) {
            s.due("setWeight(" + weight + ", 50) at first", x.setWeight(weight, 50), INITIAL[weight]);
            s.due("setWeight(" + weight + ", 0) after 50", x.setWeight(weight, 0), 50);
            s.due("setWeight(" + weight + ", 0) after 0", x.setWeight(weight, 0), 0);
            s.due("setWeight(" + weight + ", 1) after 0", x.setWeight(weight, 1), 0);
        }

        s.promise(2, "NO_SUCH if there is no such weight");
        s.refused("setWeight(-1, 0)", Offices::empty, y -> y.setWeight(-1, 0), Checks.NO_SUCH);
        s.refused("setWeight(6, 50)", Offices::empty, y -> y.setWeight(6, 50), Checks.NO_SUCH);

        s.promise(2, "BAD_VALUE if value is out of range.");
        s.refused("setWeight(0, -1)", Offices::empty, y -> y.setWeight(0, -1), Checks.BAD_VALUE);
        s.refused("setWeight(5, 51)", Offices::empty, y -> y.setWeight(5, 51), Checks.BAD_VALUE);
    }

    private void setThreshold() {
        s.promise(3, "Changes the threshold.");
        LuggageTracing x = Offices.pair();
        x.setThreshold(85);
        s.due("suggest(1, 0) at the threshold 85", x.suggest(1, 0), 1);
        x.setThreshold(86);
        s.due("suggest(1, 0) at the threshold 86", x.suggest(1, 0), Checks.NO_SUCH);
        x.setThreshold(0);
        s.due("suggest(1, 0) at the threshold 0", x.suggest(1, 0), 1);

        s.promise(3, "Undoable.");
        s.undoable("setThreshold(200)", Offices::busy, y -> y.setThreshold(200));
        s.undoable("setThreshold(35) to what it was", Offices::busy, y -> y.setThreshold(35));

        s.promise(3, "- `threshold`: 0 to 200");
        s.range("setThreshold(#)", Offices::busy, (y, v) -> y.setThreshold(v), 0, 200, Checks.BAD_VALUE);

        s.promise(3, "Returns the previous threshold");
        LuggageTracing z = new LuggageTracing();
        s.due("setThreshold(200) at first", z.setThreshold(200), 40);
        s.due("setThreshold(0) after 200", z.setThreshold(0), 200);
        s.due("setThreshold(0) after 0", z.setThreshold(0), 0);
        s.due("setThreshold(1) after 0", z.setThreshold(1), 0);

        s.promise(3, "BAD_VALUE if threshold is out of range.");
        s.refused("setThreshold(-1)", Offices::empty, y -> y.setThreshold(-1), Checks.BAD_VALUE);
        s.refused("setThreshold(201)", Offices::empty, y -> y.setThreshold(201), Checks.BAD_VALUE);
    }

    private void setMoney() {
        s.promise(4, "Changes the rate and the cap.");
        LuggageTracing x = new LuggageTracing();
        x.claim(0, 0, 0, 0, 1, 99999, 0, 1);
        x.setMoney(500, 9999);
        s.due("ifEnded(1, 0, 0) with the greatest rate", x.ifEnded(1, 0, 0), 500);
        s.due("ifEnded(1, 0, 1) with the greatest cap", x.ifEnded(1, 0, 1), 9999);
        x.setMoney(0, 1);
        s.due("ifEnded(1, 0, 0) with the rate 0", x.ifEnded(1, 0, 0), 0);
        s.due("ifEnded(1, 0, 1) with the cap 1", x.ifEnded(1, 0, 1), 1);
        x.setMoney(1, 0);
        s.due("ifEnded(1, 0, 0) with the rate 1", x.ifEnded(1, 0, 0), 1);
        s.due("ifEnded(1, 0, 1) with the cap 0", x.ifEnded(1, 0, 1), 0);

        s.promise(4, "Undoable.");
        s.undoable("setMoney(500, 1900)", Offices::busy, y -> y.setMoney(500, 1900));
        s.undoable("setMoney(31, 0)", Offices::busy, y -> y.setMoney(31, 0));
        s.undoable("setMoney(31, 1900) to what it was", Offices::busy, y -> y.setMoney(31, 1900));

        s.promise(4, "- `rate`: 0 to 500");
        s.range("setMoney(#, 7)", Offices::busy, (y, v) -> y.setMoney(v, 7), 0, 500, Checks.BAD_VALUE);

        s.promise(4, "- `cap`: 0 to 9999");
        s.range("setMoney(7, #)", Offices::busy, (y, v) -> y.setMoney(7, v), 0, 9999, Checks.BAD_VALUE);

        s.promise(4, "Returns the previous rate");
        LuggageTracing z = new LuggageTracing();
        s.due("setMoney(500, 7) at first", z.setMoney(500, 7), 30);
        s.due("setMoney(0, 9) after 500", z.setMoney(0, 9), 500);
        s.due("setMoney(0, 8) after 0", z.setMoney(0, 8), 0);
        s.due("setMoney(1, 6) after 0", z.setMoney(1, 6), 0);

        s.promise(4, "BAD_VALUE if rate or cap is out of range.");
        s.refused("setMoney(-1, 0)", Offices::busy, y -> y.setMoney(-1, 0), Checks.BAD_VALUE);
        s.refused("setMoney(501, 9999)", Offices::busy, y -> y.setMoney(501, 9999), Checks.BAD_VALUE);
        s.refused("setMoney(0, -1)", Offices::busy, y -> y.setMoney(0, -1), Checks.BAD_VALUE);
        s.refused("setMoney(500, 10000)", Offices::busy, y -> y.setMoney(500, 10000), Checks.BAD_VALUE);
        s.refused("setMoney(-1, 10000)", Offices::busy, y -> y.setMoney(-1, 10000), Checks.BAD_VALUE);
    }
}
