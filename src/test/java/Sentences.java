import java.io.IOException;
import java.nio.file.Files;
import java.nio.file.Path;
import java.util.ArrayList;
import java.util.Arrays;
import java.util.LinkedHashMap;
import java.util.List;
import java.util.Map;
import java.util.function.Supplier;
import java.util.function.ToLongFunction;

/** Counts the answers of the tests of single sentences; each test begins with its promise and its sentence. */
final class Sentences {
    static final String INTRO = "What it is";
    static final String TERMS = "Terms";
    static final String FIRST_NAMED =
            "If several of them apply, the one that is named first in the @return line is returned.";
    static final String CHANGES_NOTHING = "A call that returns NO_SUCH, BAD_VALUE, NOT_POSSIBLE, LIMIT or BAD_TEXT "
            + "changes nothing but what problem() tells.";

    private static final String[] PROMISES = {"A new object", "setWeight", "setThreshold", "setMoney", "found", "claim",
        "match", "unmatch", "matchAll", "deliver", "giveUp", "auction", "pass", "count", "bag", "claimOf", "score",
        "suggest", "sameDigits", "bestTotal", "totalOfAll", "thresholdFor", "ifEnded", "type", "clearText",
        "syntaxError", "readBags", "problem", "undo", "digest"};

    /** A call whose answer is asked for with one of its arguments. */
    interface Call {
        long of(LuggageTracing x, int value);
    }

    private record Quote(String section, String sentence) { }

    private final List<Quote> quotes = new ArrayList<>();
    private String test = "no sentence";
    private int tests;
    private int answersOfTest = 1;
    private int answers;
    private int wrong;

    static String heading(int promise) {
        return "Promise " + promise + ": " + PROMISES[promise - 1];
    }

    /** Begins the test of a sentence that stands in the promise's own section. */
    void promise(int promise, String sentence) {
        begin(heading(promise), heading(promise), sentence);
    }

    /** Begins the test of a sentence of the Terms, with the promise whose calls show it. */
    void terms(int promise, String sentence) {
        begin(TERMS, heading(promise) + ", " + TERMS, sentence);
    }

    void intro(int promise, String sentence) {
        begin(INTRO, heading(promise) + ", " + INTRO, sentence);
    }

    /** Tells of words of a section that name no boundary, or only begin a sentence that is tested. */
    void noBoundary(String section, String words) {
        quotes.add(new Quote(section, words));
    }

    private void begin(String section, String place, String sentence) {
        if (answersOfTest == 0) {
            fail("the test asks nothing");
        }
        quotes.add(new Quote(section, sentence));
        test = place + ": '" + sentence + "'";
        tests++;
        answersOfTest = 0;
    }

    void fail(String why) {
        wrong++;
        System.out.println(test + ": " + why);
    }

    void due(String call, long got, long want) {
        answers++;
        answersOfTest++;
        if (got != want) {
            fail(call + " answered " + got + ", due is " + want);
        }
    }

    private void same(String call, List<String> got, List<String> want) {
        answers++;
        for (int i = 0; i < Math.max(got.size(), want.size()); i++) {
            String one = i < got.size() ? got.get(i) : "nothing";
            String other = i < want.size() ? want.get(i) : "nothing";
            if (!one.equals(other)) {
                fail("after " + call + " stands " + one + ", due is " + other);
                return;
            }
        }
    }

    /** The call answers with this error code, and everything else stays as it was. */
    void refused(String call, Supplier<LuggageTracing> office, ToLongFunction<LuggageTracing> asked, int code) {
        due(call, asked.applyAsLong(office.get()), code);
        leaves(call, office, asked, office);
    }

    /** The call returns no error code and can be taken back; 'left' is what then stands. */
    void undoable(String call, Supplier<LuggageTracing> office, ToLongFunction<LuggageTracing> asked,
            Supplier<LuggageTracing> left) {
        LuggageTracing x = office.get();
        long answer = asked.applyAsLong(x);
        due(call + " with the error code " + answer, isErrorCode(answer) ? 1 : 0, 0);
        due("undo() after " + call, x.undo(), Offices.savedStates(office.get()));
        leaves(call + " and undo()", office, y -> {
            asked.applyAsLong(y);
            return y.undo();
        }, left);
    }

    void undoable(String call, Supplier<LuggageTracing> office, ToLongFunction<LuggageTracing> asked) {
        undoable(call, office, asked, office);
    }

    /** After the call, everything that can be asked stands as in the other office, the saved states too. */
    void leaves(String call, Supplier<LuggageTracing> office, ToLongFunction<LuggageTracing> asked,
            Supplier<LuggageTracing> other) {
        same(call, Offices.problems(after(office, asked)), Offices.problems(other.get()));
        leavesButProblems(call, office, asked, other);
    }

    void leavesButProblems(String call, Supplier<LuggageTracing> office, ToLongFunction<LuggageTracing> asked,
            Supplier<LuggageTracing> other) {
        leavesNow(call, office, asked, other);
        same(call, Offices.saved(after(office, asked)), Offices.saved(other.get()));
    }

    void leavesNow(String call, Supplier<LuggageTracing> office, ToLongFunction<LuggageTracing> asked,
            Supplier<LuggageTracing> other) {
        same(call, Offices.present(after(office, asked)), Offices.present(other.get()));
    }

    private static LuggageTracing after(Supplier<LuggageTracing> office, ToLongFunction<LuggageTracing> asked) {
        LuggageTracing x = office.get();
        asked.applyAsLong(x);
        return x;
    }

    /** The last values that are still right and the first ones that are not, on both sides; # stands for the value. */
    void range(String call, Supplier<LuggageTracing> office, Call asked, int least, int greatest, int code) {
        for (int right : new int[] {least, greatest}) {
            long answer = asked.of(office.get(), right);
            due(told(call, right) + " with the error code " + answer, isErrorCode(answer) ? 1 : 0, 0);
        }
        for (int bad : new int[] {least - 1, greatest + 1, Integer.MIN_VALUE, Integer.MAX_VALUE}) {
            refused(told(call, bad), office, x -> asked.of(x, bad), code);
        }
    }

    private static String told(String call, int value) {
        return call.replace("#", Integer.toString(value));
    }

    private static boolean isErrorCode(long answer) {
        return answer >= Checks.BAD_TEXT && answer <= Checks.NO_SUCH;
    }

    /** Each quoted sentence stands in the document, and no words of the document are left without a test. */
    void compareWithDocument(Path document) throws IOException {
        test = document.toString();
        if (!Files.exists(document)) {
            System.out.println("BoundaryTest: " + document + " is not here, so the quotes are not compared with it");
            return;
        }
        Map<String, String> sections = sections(Files.readString(document));
        List<String> asked = new ArrayList<>(List.of(INTRO, TERMS));
        for (int promise = 1; promise <= PROMISES.length; promise++) {
            asked.add(heading(promise));
        }
        for (String section : asked) {
            if (sections.containsKey(section)) {
                compare(section, sections.get(section));
            } else {
                fail("there is no section " + section);
            }
        }
    }

    private static Map<String, String> sections(String document) {
        Map<String, String> sections = new LinkedHashMap<>();
        for (String part : document.split("(?m)^## ")) {
            int end = part.indexOf('\n');
            if (end >= 0) {
                String signature = "^ ?`[^`]*`:";
                String words = part.substring(end).replaceAll("\\s+", " ").replaceFirst(signature, "");
                sections.put(part.substring(0, end).strip(), words);
            }
        }
        return sections;
    }

    private void compare(String section, String words) {
        char[] left = words.toCharArray();
        for (Quote quote : quotes) {
            if (!quote.section.equals(section)) {
                continue;
            }
            int at = words.indexOf(quote.sentence);
            if (at < 0) {
                fail(section + " has no sentence '" + quote.sentence + "'");
            }
            while (at >= 0) {
                Arrays.fill(left, at, at + quote.sentence.length(), ' ');
                at = words.indexOf(quote.sentence, at + 1);
            }
        }
        String rest = new String(left).replaceAll("\\s+", " ");
        if (!rest.replaceAll("[^A-Za-z0-9]", "").isEmpty()) {
            fail(section + " has words without a test: " + rest);
        }
    }

    void end() {
        System.out.println("BoundaryTest: " + tests + " sentences, " + answers + " answers, " + wrong + " not as due");
        if (wrong != 0) {
            System.exit(1);
        }
    }
}
