/** Promises 24 to 28: the text and the bags that are read from it. */
public final class TextTest {
    private static final Checks c = new Checks("TextTest");
    private static final String BAG = "1:000000:0a";

    public static void main(String[] args) {
        type();
        clearText();
        syntaxErrors();
        everySignAtEveryPlace();
        readBags();
        readBagsRefusesTheText();
        readBagsHasALimit();
        problemIsKept();
        undoLeavesTextAndProblem();
        c.end();
    }

    private static LuggageTracing withText(String text) {
        LuggageTracing x = new LuggageTracing();
        Checks.typeAll(x, text);
        return x;
    }

    private static void type() {
        LuggageTracing x = new LuggageTracing();
        for (int bad : new int[] {32, 127, 0, -1, 10, 255, Integer.MIN_VALUE, Integer.MAX_VALUE}) {
            c.due("type(" + bad + ")", x.type(bad), Checks.BAD_VALUE);
        }
        c.due("type(33)", x.type(33), 1);
        c.due("type(126)", x.type(126), 2);
        for (int length = 3; length <= 80; length++) {
            c.due("type(49)", x.type(49), length);
        }
        c.due("type(49) when the text is full", x.type(49), Checks.LIMIT);
        c.due("type(32) when the text is full", x.type(32), Checks.BAD_VALUE);
        c.due("clearText()", x.clearText(), 80);
        c.due("type(49) after clearText()", x.type(49), 1);
        c.due("undo() after type", x.undo(), Checks.NOT_POSSIBLE);
    }

    private static void clearText() {
        LuggageTracing x = withText(BAG);
        c.due("clearText()", x.clearText(), 11);
        c.due("clearText() again", x.clearText(), 0);
        c.due("syntaxError() of the empty text", x.syntaxError(), 0);
        c.due("undo() after clearText()", x.undo(), Checks.NOT_POSSIBLE);
    }

    private static void syntaxErrors() {
        Object[][] textsDue = {
            {"", 0}, {BAG, Checks.NONE}, {BAG + ";", 12}, {BAG + ";;", 12}, {";", 0}, {BAG + BAG, 11},
            {BAG + ";" + BAG, Checks.NONE}, {"1", 1}, {"1:", 2}, {"1:00000", 7}, {"1:000000", 8},
            {"1:000000:", 9}, {"1:000000:0", 10}, {"8:000000:0a", 0}, {"7:000000:7l", Checks.NONE},
            {"0:??????:0l", Checks.NONE}, {"1:00000:0a", 7}, {"1:0000000:0a", 8}, {"1:00000a:0a", 7},
            {"1:000000:8a", 9}, {"1:000000:0m", 10}, {"1:000000:0A", 10}, {"1;000000:0a", 1},
            {"1:000000;0a", 8}, {BAG + "stuvwxyz", Checks.NONE}, {BAG + "sz", Checks.NONE}, {BAG + "ss", 12},
            {BAG + "ts", 12}, {BAG + "zs", 12}, {BAG + "zz", 12}, {BAG + "r", 11}, {BAG + "{", 11}, {BAG + "S", 11},
            {BAG + "a", 11}, {BAG + "st;", 14}, {BAG + "st;" + BAG + "s", Checks.NONE}, {BAG + "tuw;2:12?456:7lv", Checks.NONE},
            {BAG + "sty;" + BAG + "wv", 27}, {"x" + BAG, 0}, {"?:000000:0a", 0}, {BAG + ";8", 12}};
        for (Object[] t : textsDue) {
            c.due("syntaxError() of " + t[0], withText((String) t[0]).syntaxError(), (Integer) t[1]);
        }
        String six = BAG + ";" + BAG + ";" + BAG + ";" + BAG + ";" + BAG + ";" + BAG;
        c.due("syntaxError() of six bags", withText(six).syntaxError(), Checks.NONE);
        c.due("syntaxError() of a full text", withText(six + "stuvwxyz;").syntaxError(), 80);
        LuggageTracing x = withText(BAG);
        long before = x.digest();
        x.syntaxError();
        c.due("digest() after syntaxError()", x.digest(), before);
        c.due("problem(0) after syntaxError()", x.problem(0), Checks.NONE);
        c.due("clearText() after syntaxError()", x.clearText(), 11);
    }

    private static void everySignAtEveryPlace() {
        String[] allowed = {"01234567", ":", "0123456789?", "0123456789?", "0123456789?", "0123456789?",
            "0123456789?", "0123456789?", ":", "01234567", "abcdefghijkl", "stuvwxyz;"};
        for (int place = 0; place < allowed.length; place++) {
            LuggageTracing x = null;
            for (int code = 33; code <= 126; code++) {
                x = withText(BAG.substring(0, place));
                x.type(code);
                boolean fits = allowed[place].indexOf(code) >= 0;
                int due = !fits ? place : place == 10 || place == 11 && code != ';' ? Checks.NONE : place + 1;
                c.due("syntaxError() of " + BAG.substring(0, place) + (char) code, x.syntaxError(), due);
            }
        }
    }

    private static void readBags() {
        LuggageTracing x = new LuggageTracing();
        x.found(0, 0, 0, 0, 0, 0);
        x.pass(7);
        Checks.typeAll(x, "3:12?45?:6dsuz;7:000009:0a;0:??????:7lstuvwxyz");
        c.due("readBags()", x.readBags(), 3);
        c.due("clearText() after readBags()", x.clearText(), 0);
        int[][] due = {{3, 120450, 36, 6, 3, 133, 7, Checks.NONE}, {7, 9, 0, 0, 0, 0, 7, Checks.NONE},
            {0, 0, 63, 7, 11, 255, 7, Checks.NONE}};
        for (int i = 0; i < due.length; i++) {
            for (int what = 0; what < 8; what++) {
                c.due("bag(" + (i + 2) + ", " + what + ")", x.bag(i + 2, what), due[i][what]);
            }
        }
        c.due("count(1)", x.count(1), 4);
        c.due("problem(0) after success", x.problem(0), Checks.NONE);
        c.due("undo()", x.undo(), 2);
        c.due("count(1) after undo()", x.count(1), 1);
        c.due("clearText() after undo()", x.clearText(), 0);
        Checks.typeAll(x, BAG);
        c.due("readBags() after undo()", x.readBags(), 1);
        c.due("bag(2, 0)", x.bag(2, 0), 1);
    }

    private static void readBagsRefusesTheText() {
        Object[][] textsBagIndex = {{"", 0, 0}, {BAG + ";", 1, 12}, {BAG + ";;", 1, 12}, {BAG + "m", 0, 11},
            {";", 0, 0}, {BAG + ";" + BAG + ";1:0;", 2, 27}, {BAG + ";" + BAG + "ts", 1, 24}, {"1:00", 0, 4},
            {"1:;" + BAG, 0, 2}, {BAG + ";" + BAG + ";", 2, 24}};
        for (Object[] t : textsBagIndex) {
            LuggageTracing x = withText((String) t[0]);
            c.due("readBags() of " + t[0], x.readBags(), Checks.BAD_TEXT);
            c.due("problem(0) of " + t[0], x.problem(0), Checks.BAD_TEXT);
            c.due("problem(1) of " + t[0], x.problem(1), (Integer) t[1]);
            c.due("problem(2) of " + t[0], x.problem(2), (Integer) t[2]);
            c.due("count(1) after " + t[0], x.count(1), 0);
            c.due("undo() after " + t[0], x.undo(), Checks.NOT_POSSIBLE);
            c.due("clearText() after " + t[0], x.clearText(), ((String) t[0]).length());
        }
    }

    private static void readBagsHasALimit() {
        LuggageTracing x = new LuggageTracing();
        for (int i = 0; i < 10; i++) {
            x.found(0, 0, 0, 0, 0, 0);
        }
        Checks.typeAll(x, BAG + ";" + BAG + ";" + BAG);
        c.due("readBags() of three bags into room for two", x.readBags(), Checks.LIMIT);
        c.due("problem(0)", x.problem(0), Checks.LIMIT);
        c.due("problem(1)", x.problem(1), 2);
        c.due("problem(2)", x.problem(2), Checks.NONE);
        c.due("count(1)", x.count(1), 10);
        Checks.typeAll(x, "!");
        c.due("readBags() of a bad text without room", x.readBags(), Checks.BAD_TEXT);
        c.due("problem(1)", x.problem(1), 2);
        c.due("problem(2)", x.problem(2), 35);
        c.due("clearText()", x.clearText(), 36);
        Checks.typeAll(x, BAG + ";" + BAG);
        c.due("readBags() of two bags into room for two", x.readBags(), 2);
        Checks.typeAll(x, BAG);
        c.due("readBags() without room", x.readBags(), Checks.LIMIT);
        c.due("problem(1)", x.problem(1), 0);
        c.due("clearText()", x.clearText(), 11);
    }

    private static void problemIsKept() {
        LuggageTracing x = withText(BAG + "!");
        for (int bad : new int[] {-1, 3, Integer.MIN_VALUE, Integer.MAX_VALUE}) {
            c.due("problem(" + bad + ") before any", x.problem(bad), Checks.BAD_VALUE);
        }
        x.readBags();
        x.clearText();
        Checks.typeAll(x, BAG);
        c.due("readBags()", x.readBags(), 1);
        c.due("problem(0) is kept after success", x.problem(0), Checks.BAD_TEXT);
        c.due("problem(1) is kept after success", x.problem(1), 0);
        c.due("problem(2) is kept after success", x.problem(2), 11);
        for (int bad : new int[] {-1, 3, Integer.MIN_VALUE, Integer.MAX_VALUE}) {
            c.due("problem(" + bad + ")", x.problem(bad), Checks.BAD_VALUE);
        }
        x.readBags();
        c.due("problem(2) of the latest call", x.problem(2), 0);
    }

    private static void undoLeavesTextAndProblem() {
        LuggageTracing x = withText("9");
        x.pass(1);
        x.readBags();
        Checks.typeAll(x, "99");
        c.due("undo()", x.undo(), 0);
        c.due("problem(0) after undo()", x.problem(0), Checks.BAD_TEXT);
        c.due("problem(2) after undo()", x.problem(2), 0);
        c.due("clearText() after undo()", x.clearText(), 3);
    }
}
