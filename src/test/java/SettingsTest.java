/** Promises 1 to 4: a new object and the settings. */
public final class SettingsTest {
    private static final Checks c = new Checks("SettingsTest");

    public static void main(String[] args) {
        newObject();
        setWeight();
        weightsActOnTheirOwnParts();
        setThreshold();
        setMoney();
        errorsSaveNothing();
        c.end();
    }

    private static void newObject() {
        LuggageTracing x = new LuggageTracing();
        for (int what = 0; what <= 7; what++) {
            c.due("new: count(" + what + ")", x.count(what), 0);
        }
        c.due("new: bag(1, 0)", x.bag(1, 0), Checks.NO_SUCH);
        c.due("new: claimOf(1, 0)", x.claimOf(1, 0), Checks.NO_SUCH);
        c.due("new: bestTotal()", x.bestTotal(), 0);
        c.due("new: totalOfAll()", x.totalOfAll(), 0);
        c.due("new: clearText()", x.clearText(), 0);
        c.due("new: syntaxError()", x.syntaxError(), 0);
        for (int what = 0; what <= 2; what++) {
            c.due("new: problem(" + what + ")", x.problem(what), Checks.NONE);
        }
        c.due("new: undo()", x.undo(), Checks.NOT_POSSIBLE);
        long hash = 234;
        for (int zero = 0; zero < 10; zero++) {
            hash *= 31;
        }
        c.due("new: digest()", x.digest(), hash);
        LuggageTracing other = new LuggageTracing();
        x.pass(5);
        c.due("another new object: count(0)", other.count(0), 0);
    }

    private static void setWeight() {
        LuggageTracing x = new LuggageTracing();
        int[] initial = {8, 10, 12, 5, 15, 1};
        for (int weight = 0; weight < 6; weight++) {
            c.due("setWeight(" + weight + ", 50)", x.setWeight(weight, 50), initial[weight]);
            c.due("setWeight(" + weight + ", 0)", x.setWeight(weight, 0), 50);
            c.due("setWeight(" + weight + ", 51)", x.setWeight(weight, 51), Checks.BAD_VALUE);
            c.due("setWeight(" + weight + ", -1)", x.setWeight(weight, -1), Checks.BAD_VALUE);
            c.due("setWeight(" + weight + ", max)", x.setWeight(weight, Integer.MAX_VALUE), Checks.BAD_VALUE);
            c.due("setWeight(" + weight + ", 7)", x.setWeight(weight, 7), 0);
        }
        int[] none = {-1, 6, 7, Integer.MIN_VALUE, Integer.MAX_VALUE};
        for (int weight : none) {
            c.due("setWeight(" + weight + ", 1)", x.setWeight(weight, 1), Checks.NO_SUCH);
            c.due("setWeight(" + weight + ", 51)", x.setWeight(weight, 51), Checks.NO_SUCH);
        }
    }

    private static void weightsActOnTheirOwnParts() {
        LuggageTracing x = new LuggageTracing();
        x.claim(123456, 3, 5, 3, 2, 10, 0, 2);
        x.found(1, 123456, 0, 3, 5, 3);
        int[] times = {6, 1, 1, 2, 1, -2};
        for (int weight = 0; weight < 6; weight++) {
            x.setWeight(weight, 20 + weight);
            c.due("score(1, 1, " + (weight + 1) + ")", x.score(1, 1, weight + 1), times[weight] * (20 + weight));
        }
    }

    private static void setThreshold() {
        LuggageTracing x = new LuggageTracing();
        c.due("setThreshold(200)", x.setThreshold(200), 40);
        c.due("setThreshold(201)", x.setThreshold(201), Checks.BAD_VALUE);
        c.due("setThreshold(-1)", x.setThreshold(-1), Checks.BAD_VALUE);
        c.due("setThreshold(min)", x.setThreshold(Integer.MIN_VALUE), Checks.BAD_VALUE);
        c.due("setThreshold(0)", x.setThreshold(0), 200);
        c.due("setThreshold(0) again", x.setThreshold(0), 0);
    }

    private static void setMoney() {
        LuggageTracing x = new LuggageTracing();
        x.claim(0, 0, 0, 0, 1, 99999, 0, 30);
        c.due("ifEnded(1, 0, 0) at first", x.ifEnded(1, 0, 0), 300);
        c.due("ifEnded(1, 0, 1) at first", x.ifEnded(1, 0, 1), 2000);
        c.due("setMoney(500, 9999)", x.setMoney(500, 9999), 30);
        c.due("ifEnded(1, 0, 0)", x.ifEnded(1, 0, 0), 5000);
        c.due("ifEnded(1, 0, 1)", x.ifEnded(1, 0, 1), 9999);
        int[][] bad = {{501, 0}, {-1, 0}, {0, 10000}, {0, -1}, {Integer.MAX_VALUE, Integer.MIN_VALUE}};
        for (int[] money : bad) {
            c.due("setMoney(" + money[0] + ", " + money[1] + ")", x.setMoney(money[0], money[1]), Checks.BAD_VALUE);
        }
        c.due("ifEnded(1, 0, 0) after errors", x.ifEnded(1, 0, 0), 5000);
        c.due("ifEnded(1, 0, 1) after errors", x.ifEnded(1, 0, 1), 9999);
        c.due("setMoney(0, 0)", x.setMoney(0, 0), 500);
        c.due("ifEnded(1, 0, 0) without a rate", x.ifEnded(1, 0, 0), 0);
        c.due("ifEnded(1, 0, 1) without a cap", x.ifEnded(1, 0, 1), 0);
    }

    private static void errorsSaveNothing() {
        LuggageTracing x = new LuggageTracing();
        x.setWeight(6, 1);
        x.setWeight(0, 51);
        x.setThreshold(201);
        x.setMoney(501, 1);
        c.due("undo() after errors alone", x.undo(), Checks.NOT_POSSIBLE);
        x.setWeight(2, 12);
        x.setThreshold(41);
        x.setMoney(31, 1);
        c.due("undo() of setMoney", x.undo(), 2);
        c.due("setMoney after its undo", x.setMoney(30, 2000), 30);
        c.due("undo() of setMoney again", x.undo(), 2);
        c.due("undo() of setThreshold", x.undo(), 1);
        c.due("undo() of setWeight to the same value", x.undo(), 0);
        c.due("setThreshold after its undo", x.setThreshold(9), 40);
    }
}
