import java.util.function.Supplier;

/** The sentences of promises 24 to 28 and of the Terms on the text. */
final class TextBoundaries {
    private static final String BAG = Offices.BAG;

    private final Sentences s;

    TextBoundaries(Sentences s) {
        this.s = s;
    }

    void run() {
        theText();
        theBagList();
        theBag();
        theMarks();
        type();
        clearText();
        syntaxError();
        syntaxErrorOfEndings();
        readBags();
        readBagsRefuses();
        problem();
        problemRefuses();
    }

    private static int errorIn(String text) {
        return Offices.withText(text).syntaxError();
    }

    private void error(String text, int due) {
        s.due("syntaxError() of '" + text + "'", errorIn(text), due);
    }

    /** At this place of a bag these characters fit; their neighbours, below and above, do not. */
    private void fits(int place, String right, String wrong) {
        for (char sign : right.toCharArray()) {
            error(BAG.substring(0, place) + sign + BAG.substring(place + 1), Checks.NONE);
            error("0:??????:7l;" + BAG.substring(0, place) + sign + BAG.substring(place + 1), Checks.NONE);
        }
        for (char sign : wrong.toCharArray()) {
            error(BAG.substring(0, place) + sign + BAG.substring(place + 1), place);
            error("0:??????:7l;" + BAG.substring(0, place) + sign + BAG.substring(place + 1), 12 + place);
        }
    }

    private void theText() {
        s.terms(24, "There is a text of at most 80 characters");
        LuggageTracing x = new LuggageTracing();
        for (int length = 1; length <= 80; length++) {
            s.due("type(97) number " + length, x.type(97), length);
        }
        s.due("type(97) number 81", x.type(97), Checks.LIMIT);
        s.due("clearText()", x.clearText(), 80);
        s.due("type(97) after clearText()", x.type(97), 1);

        s.terms(25, "which is empty initially.");
        s.due("clearText() of a new office", new LuggageTracing().clearText(), 0);
        s.due("type(97) in a new office", new LuggageTracing().type(97), 1);
    }

    private void theBagList() {
        s.terms(26, "A bag list is a text of the form bag { \";\" bag }, where a bag is: ");
        error("", 0);
        error(";", 0);
        error(BAG, Checks.NONE);
        error(BAG + ";", 12);
        error(";" + BAG, 0);
        error(BAG + ";" + BAG, Checks.NONE);
        error(BAG + ";;" + BAG, 12);
        error(BAG + BAG, 11);
        error(BAG + "," + BAG, 11);
        error(BAG + ":" + BAG, 11);
        error(BAG + "<" + BAG, 11);
        error((BAG + ";").repeat(5) + BAG, Checks.NONE);
        error((BAG + ";").repeat(5) + BAG + "stuvwxyz", Checks.NONE);
    }

    private void theBag() {
        s.terms(26, "the digit of an airport, \":\"");
        fits(0, "0123456789".substring(0, 8), "/89:a!~?;");
        fits(1, ":", "9;0!~?a");

        s.terms(26, "six characters that are digits or \"?\" (for an illegible digit), \":\"");
        for (int place = 2; place <= 7; place++) {
            fits(place, "0123456789?", "/:>@;a!~");
        }
        fits(8, ":", "9;0!~?a");
        error("1::0a", 2);
        error("1:00000:0a", 7);
        error("1:000000:0a", Checks.NONE);
        error("1:0000000:0a", 8);

        s.terms(26, "the digit of a colour");
        fits(9, "01234567", "/89:a!~?;");

        s.terms(26, "a letter from \"a\" to \"l\" for a kind");
        fits(10, "abcdefghijkl", "`mAL0;!~sz{?");
    }

    private void theMarks() {
        s.terms(26, "and for each mark that it has a letter from \"s\" to \"z\"");
        error(BAG, Checks.NONE);
        for (char mark = 's'; mark <= 'z'; mark++) {
            error(BAG + mark, Checks.NONE);
            error(BAG + mark + ";" + BAG, Checks.NONE);
        }
        for (char sign : "ra{lSZ0:?!~`".toCharArray()) {
            error(BAG + sign, 11);
            error(BAG + "s" + sign, 12);
        }

        s.terms(26, "in ascending order, each at most once.");
        error(BAG + "stuvwxyz", Checks.NONE);
        error(BAG + "sz", Checks.NONE);
        error(BAG + "yz", Checks.NONE);
        for (char mark = 's'; mark <= 'z'; mark++) {
            error(BAG + mark + mark, 12);
            if (mark > 's') {
                error(BAG + (char) (mark - 1) + mark, Checks.NONE);
                error(BAG + mark + (char) (mark - 1), 12);
                error(BAG + mark + "s", 12);
            }
        }
        error(BAG + "stuvwxyzz", 19);
        error(BAG + "stuvwxyz{", 19);
        error(BAG + "stuvwxyzs", 19);
        error(BAG + "suwt", 14);
        error(BAG + "z;" + BAG + "s", Checks.NONE);
        LuggageTracing x = Offices.withText(BAG + "z;" + BAG + "s;" + BAG + "stuvwxyz;" + BAG + "ty;" + BAG);
        x.readBags();
        int[] marks = {128, 1, 255, 66, 0};
        for (int i = 0; i < marks.length; i++) {
            s.due("bag(" + (i + 1) + ", 5)", x.bag(i + 1, 5), marks[i]);
        }
    }

    private void type() {
        s.promise(24, "Appends a character to the text.");
        LuggageTracing x = new LuggageTracing();
        Checks.typeAll(x, "1:000000:0");
        s.due("syntaxError() before the last character", x.syntaxError(), 10);
        x.type('a');
        s.due("syntaxError() after the last character", x.syntaxError(), Checks.NONE);
        for (int code = 33; code <= 126; code++) {
            LuggageTracing y = Offices.withText(BAG + ";1:000000:0");
            y.type(code);
            s.due("syntaxError() after type(" + code + ")", y.syntaxError(), code >= 'a' && code <= 'l' ? Checks.NONE : 22);
        }

        s.promise(24, "- `code`: character code, 33 to 126");
        s.range("type(#)", Offices::busy, LuggageTracing::type, 33, 126, Checks.BAD_VALUE);

        s.promise(24, "Returns the new length of the text");
        LuggageTracing z = new LuggageTracing();
        s.due("type(33)", z.type(33), 1);
        s.due("type(126)", z.type(126), 2);
        LuggageTracing w = Offices.withText("a".repeat(79));
        s.due("type(97) when the text has 79 characters", w.type(97), 80);

        s.promise(24, "BAD_VALUE if code is out of range");
        for (int bad : new int[] {32, 127, 0, -1, 97 + 128, 97 + 256, 97 - 256, 97 + 65536}) {
            s.refused("type(" + bad + ")", Offices::busy, y -> y.type(bad), Checks.BAD_VALUE);
        }

        s.promise(24, "LIMIT if the text has 80 characters.");
        s.refused("type(97) when the text has 80 characters", Offices::fullText, y -> y.type(97), Checks.LIMIT);
        s.refused("type(33) when the text has 80 characters", Offices::fullText, y -> y.type(33), Checks.LIMIT);
    }

    private void clearText() {
        s.promise(25, "Makes the text empty.");
        LuggageTracing x = Offices.withText("9".repeat(80));
        x.clearText();
        s.due("clearText() again", x.clearText(), 0);
        s.due("syntaxError()", x.syntaxError(), 0);
        Checks.typeAll(x, BAG);
        s.due("syntaxError() of the next text", x.syntaxError(), Checks.NONE);
        s.due("readBags() of the next text", x.readBags(), 1);

        s.promise(25, "Returns the previous length of the text.");
        for (int length : new int[] {0, 1, 79, 80}) {
            LuggageTracing y = Offices.withText("a".repeat(length));
            s.due("clearText() of " + length + " characters", y.clearText(), length);
            s.due("clearText() again", y.clearText(), 0);
        }
    }

    private void syntaxError() {
        s.promise(26, "Returns the index of the first character for which no bag list, of any length, begins with the "
                + "characters of the text up to and including this one");
        error("8", 0);
        error("8!", 0);
        error("!" + BAG, 0);
        error("1!", 1);
        error("1:00000!!", 7);
        error(BAG + "!", 11);
        error(BAG + ";!", 12);
        error(BAG + "st!", 13);
        error(BAG + "!;" + BAG + "!", 11);
        error("1".repeat(80), 1);
        error((BAG + ";").repeat(6) + "1:00000!", 79);
        error((BAG + ";").repeat(6) + "1:000000", 80);
        error((BAG + ";").repeat(6) + "1:000000".substring(0, 7), 79);
        error((BAG + ";").repeat(5) + BAG + "stuvwxy;", 79);
        error((BAG + ";").repeat(5) + BAG + "stuvwxyz!", 79);
        error((BAG + ";").repeat(5) + BAG + "stuvwxyz;", 80);

        s.promise(26, "NONE if the text is a bag list.");
        error(BAG, Checks.NONE);
        error(Offices.TWO_BAGS, Checks.NONE);
        error((BAG + ";").repeat(5) + BAG + "stuvwxyz", Checks.NONE);
        error((BAG + "st;").repeat(4) + BAG + "stuvwxyz", Checks.NONE);
        s.leaves("syntaxError() of a bag list", Offices::busy, LuggageTracing::syntaxError, Offices::busy);
        s.leaves("syntaxError() of another text", Offices::fullText, LuggageTracing::syntaxError, Offices::fullText);
    }

    private void syntaxErrorOfEndings() {
        s.promise(26, "the length of the text if there is no such character but the text is not a bag list");
        for (int length = 1; length <= 10; length++) {
            error(BAG.substring(0, length), length);
            error(BAG + ";" + BAG.substring(0, length), 12 + length);
            error(BAG + "s;" + BAG.substring(0, length), 13 + length);
        }
        error(BAG + ";", 12);
        error(BAG + "z;", 13);
        error(BAG + ";" + BAG + ";", 24);

        s.promise(26, "(this holds for the empty text)");
        s.due("syntaxError() of a new office", new LuggageTracing().syntaxError(), 0);
        LuggageTracing x = Offices.withText(BAG);
        x.readBags();
        s.due("syntaxError() after readBags()", x.syntaxError(), 0);
        LuggageTracing y = Offices.withText(BAG);
        y.clearText();
        s.due("syntaxError() after clearText()", y.syntaxError(), 0);
    }

    private void readBags() {
        s.promise(27, "Registers the bags of the text, found on the current day");
        LuggageTracing x = Offices.onDay(9999);
        Checks.typeAll(x, "0:000000:0a;7:999999:7lstuvwxyz;3:??????:4f;5:?2345?:6esz;6:1????6:1by");
        x.readBags();
        int[][] due = {{0, 0, 0, 0, 0, 0, 9999, Checks.NONE}, {7, 999999, 0, 7, 11, 255, 9999, Checks.NONE},
            {3, 0, 63, 4, 5, 0, 9999, Checks.NONE}, {5, 23450, 33, 6, 4, 129, 9999, Checks.NONE},
            {6, 100006, 30, 1, 1, 64, 9999, Checks.NONE}};
        for (int bag = 1; bag <= 5; bag++) {
            for (int what = 0; what <= 7; what++) {
                s.due("bag(" + bag + ", " + what + ")", x.bag(bag, what), due[bag - 1][what]);
            }
        }
        s.due("bag(6, 0)", x.bag(6, 0), Checks.NO_SUCH);

        s.promise(27, "all of them or none");
        s.due("count(1) when the first of two bags is wrong", bagsAfterReading("8:000000:0a;" + BAG, 0), 0);
        s.due("count(1) when the second of two bags is wrong", bagsAfterReading(BAG + ";8:000000:0a", 0), 0);
        s.due("count(1) when the text ends behind ;", bagsAfterReading(BAG + ";", 0), 0);
        s.due("count(1) when there is room for one of two", bagsAfterReading(BAG + ";" + BAG, 11), 11);
        s.due("count(1) when there is room for both", bagsAfterReading(BAG + ";" + BAG, 10), 12);

        s.promise(27, "and makes the text empty.");
        LuggageTracing y = Offices.withText(BAG);
        y.readBags();
        s.due("clearText() after readBags()", y.clearText(), 0);
        s.due("type(97) after readBags()", y.type(97), 1);
        s.due("readBags() after it", y.readBags(), Checks.BAD_TEXT);

        s.promise(27, "Undoable.");
        s.undoable("readBags()", Offices::busy, LuggageTracing::readBags, Offices::busyWithoutText);

        s.promise(27, "Returns the number of bags that are registered");
        for (int bags = 1; bags <= 6; bags++) {
            LuggageTracing z = Offices.withText((BAG + ";").repeat(bags - 1) + BAG);
            s.due("readBags() of " + bags + " bags", z.readBags(), bags);
            s.due("count(1)", z.count(1), bags);
        }
    }

    private static int bagsAfterReading(String text, int bagsBefore) {
        LuggageTracing x = Offices.withBagsAndClaims(bagsBefore, 0);
        Checks.typeAll(x, text);
        x.readBags();
        return x.count(1);
    }

    private static LuggageTracing withBagsAndText(int bags, String text) {
        LuggageTracing x = Offices.withBagsAndClaims(bags, 2);
        Checks.typeAll(x, text);
        return x;
    }

    private void refusesToRead(Supplier<LuggageTracing> office, String told, int code) {
        s.due("readBags() " + told, office.get().readBags(), code);
        s.leavesButProblems("readBags() " + told, office, LuggageTracing::readBags, office);
    }

    private void readBagsRefuses() {
        String six = (BAG + ";").repeat(5) + BAG;
        s.promise(27, "BAD_TEXT if the text is not a bag list");
        refusesToRead(Offices::empty, "of the empty text", Checks.BAD_TEXT);
        refusesToRead(() -> withBagsAndText(2, BAG + ";"), "of a text that ends behind ;", Checks.BAD_TEXT);
        refusesToRead(() -> withBagsAndText(2, "1:000000:0"), "of a bag without a kind", Checks.BAD_TEXT);
        refusesToRead(() -> withBagsAndText(2, BAG + ";" + BAG + "ts"), "of wrong marks", Checks.BAD_TEXT);
        refusesToRead(Offices::fullText, "of 80 characters", Checks.BAD_TEXT);

        s.promise(27, "LIMIT if there would be more than 12 bags");
        for (int[] bagsMore : new int[][] {{11, 1}, {10, 2}, {6, 6}}) {
            String text = (BAG + ";").repeat(bagsMore[1] - 1) + BAG;
            LuggageTracing x = withBagsAndText(bagsMore[0], text);
            s.due("readBags() of " + bagsMore[1] + " bags besides " + bagsMore[0], x.readBags(), bagsMore[1]);
            s.due("count(1)", x.count(1), 12);
            refusesToRead(() -> withBagsAndText(bagsMore[0] + 1, text),
                    "of " + bagsMore[1] + " bags besides " + (bagsMore[0] + 1), Checks.LIMIT);
        }
        refusesToRead(Offices::full, "of two bags besides 12", Checks.LIMIT);
        refusesToRead(() -> withBagsAndText(12, six), "of six bags besides 12", Checks.LIMIT);

        s.promise(27, "(in both cases the text stays).");
        LuggageTracing y = Offices.withText(BAG + ";");
        y.readBags();
        Checks.typeAll(y, BAG);
        s.due("syntaxError() of a text that goes on after BAD_TEXT", y.syntaxError(), Checks.NONE);
        s.due("readBags() of a text that goes on after BAD_TEXT", y.readBags(), 2);
        LuggageTracing z = withBagsAndText(12, BAG);
        z.readBags();
        s.due("type(115) after LIMIT", z.type('s'), 12);
        z.pass(90);
        z.auction(1);
        s.due("readBags() when there is room again", z.readBags(), 1);
        s.due("bag(13, 5)", z.bag(13, 5), 1);
    }

    private void told(LuggageTracing x, String call, int code, int bag, int index) {
        s.due("problem(0) after " + call, x.problem(0), code);
        s.due("problem(1) after " + call, x.problem(1), bag);
        s.due("problem(2) after " + call, x.problem(2), index);
    }

    private static LuggageTracing read(LuggageTracing x) {
        x.readBags();
        return x;
    }

    private void problem() {
        s.promise(28, "Tells about the latest call of readBags() that returned an error code.");
        LuggageTracing x = read(Offices.withText(BAG + "!"));
        told(x, "BAD_TEXT", Checks.BAD_TEXT, 0, 11);
        x.clearText();
        Checks.typeAll(x, BAG);
        s.due("readBags()", x.readBags(), 1);
        told(x, "a call without an error", Checks.BAD_TEXT, 0, 11);
        x.readBags();
        told(x, "a second error", Checks.BAD_TEXT, 0, 0);
        for (int i = 0; i < 11; i++) {
            Offices.bag(x);
        }
        Checks.typeAll(x, BAG);
        x.readBags();
        told(x, "LIMIT", Checks.LIMIT, 0, Checks.NONE);
        x.setWeight(6, 0);
        x.syntaxError();
        Offices.bag(x);
        x.type(32);
        told(x, "other calls with errors", Checks.LIMIT, 0, Checks.NONE);
        x.clearText();
        x.readBags();
        told(x, "BAD_TEXT after LIMIT", Checks.BAD_TEXT, 0, 0);

        s.promise(28, "- `what`: 0 for the error code");
        s.due("problem(0) after BAD_TEXT", read(Offices.withText("9")).problem(0), -10005);
        s.due("problem(0) after LIMIT", read(Offices.full()).problem(0), -10004);

        s.promise(28, "1 for the number, from 0, of the bag in the text that has the first error");
        for (int bags = 0; bags <= 6; bags++) {
            String right = (BAG + ";").repeat(bags);
            s.due("problem(1) with " + bags + " right bags before", read(Offices.withText(right + "8")).problem(1), bags);
            s.due("problem(1) with " + bags + " right bags alone", read(Offices.withText(right)).problem(1), bags);
        }
        s.due("problem(1) of the empty text", read(Offices.empty()).problem(1), 0);
        s.due("problem(1) of two errors", read(Offices.withText(BAG + ";8;9")).problem(1), 1);
        s.due("problem(1) of an error behind the kind", read(Offices.withText(BAG + ";" + BAG + "m")).problem(1), 1);
        s.due("problem(1) of ;; in the text", read(Offices.withText(BAG + ";;")).problem(1), 1);
        s.due("problem(1) of ; behind an unfinished bag", read(Offices.withText(BAG + ";1:0;")).problem(1), 1);

        s.promise(28, "or that is the first one without room");
        for (int room = 0; room <= 5; room++) {
            LuggageTracing y = read(withBagsAndText(12 - room, (BAG + ";").repeat(5) + BAG));
            s.due("problem(1) with room for " + room + " of six bags", y.problem(1), room);
        }
        s.due("problem(1) with room for one of two bags", read(withBagsAndText(11, BAG + ";" + BAG)).problem(1), 1);
    }

    private void problemRefuses() {
        s.promise(28, "2 for the index of the first error in the text");
        String[] texts = {"", "8", "1", BAG + "!", BAG + ";", BAG + ";8", (BAG + ";").repeat(6) + "1:000000",
            (BAG + ";").repeat(6) + "1:00000!"};
        int[] due = {0, 0, 1, 11, 12, 12, 80, 79};
        for (int i = 0; i < texts.length; i++) {
            s.due("problem(2) of '" + texts[i] + "'", read(Offices.withText(texts[i])).problem(2), due[i]);
        }

        s.promise(28, "(NONE for LIMIT)");
        s.due("problem(2) after LIMIT", read(Offices.full()).problem(2), Checks.NONE);
        LuggageTracing x = Offices.full();
        x.type('!');
        x.readBags();
        s.due("problem(2) of a wrong text without room", x.problem(2), Offices.TWO_BAGS.length());

        s.promise(28, "BAD_VALUE if what is out of range");
        s.range("problem(#)", Offices::busy, (y, v) -> y.problem(v) == Checks.BAD_TEXT ? 0 : y.problem(v), 0, 2,
                Checks.BAD_VALUE);
        s.range("problem(#) before any", Offices::empty, LuggageTracing::problem, 0, 2, Checks.BAD_VALUE);

        s.promise(28, "NONE if there was no such call yet.");
        LuggageTracing y = new LuggageTracing();
        told(y, "no call", Checks.NONE, Checks.NONE, Checks.NONE);
        Checks.typeAll(y, BAG);
        s.due("readBags()", y.readBags(), 1);
        told(y, "a call without an error", Checks.NONE, Checks.NONE, Checks.NONE);
        y.undo();
        y.syntaxError();
        y.setThreshold(201);
        told(y, "other errors", Checks.NONE, Checks.NONE, Checks.NONE);
    }
}
