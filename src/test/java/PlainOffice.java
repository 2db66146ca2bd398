import java.util.ArrayDeque;
import java.util.ArrayList;
import java.util.Deque;
import java.util.HashMap;
import java.util.List;
import java.util.Map;
import java.util.TreeMap;
import java.util.regex.Pattern;

/**
 * The document once more, in another way, to compare answers with: maps and texts for the state,
 * regular expressions for the bag lists, and all sets of bags for the best total.
 */
final class PlainOffice {
    private static final int NO_SUCH = -10001;
    private static final int BAD_VALUE = -10002;
    private static final int NOT_POSSIBLE = -10003;
    private static final int LIMIT = -10004;
    private static final int BAD_TEXT = -10005;
    private static final int NONE = -10006;

    private static final String BAG = "[0-7]:[0-9?]{6}:[0-7][a-l]s?t?u?v?w?x?y?z?";
    private static final Pattern LIST = Pattern.compile(BAG + "(;" + BAG + ")*");

    private record Bag(int airport, String tag, int colour, int kind, int marks, int day) { }

    private record Claim(String tag, int colour, int kind, int marks, int route, int worth, int age, int flight) { }

    private static final class State {
        int[] weights = {8, 10, 12, 5, 15, 1};
        int threshold = 40;
        int rate = 30;
        int cap = 2000;
        int day;
        int nextBag = 1;
        int nextClaim = 1;
        int[] ended = new int[4];
        TreeMap<Integer, Bag> bags = new TreeMap<>();
        TreeMap<Integer, Claim> claims = new TreeMap<>();
        TreeMap<Integer, Integer> bagOfClaim = new TreeMap<>();

        State copy() {
            State s = new State();
            s.weights = weights.clone();
            s.threshold = threshold;
            s.rate = rate;
            s.cap = cap;
            s.day = day;
            s.nextBag = nextBag;
            s.nextClaim = nextClaim;
            s.ended = ended.clone();
            s.bags = new TreeMap<>(bags);
            s.claims = new TreeMap<>(claims);
            s.bagOfClaim = new TreeMap<>(bagOfClaim);
            return s;
        }
    }

    private State s = new State();
    private final Deque<State> saved = new ArrayDeque<>();
    private String text = "";
    private int[] problem;

    private void save() {
        saved.addLast(s.copy());
        if (saved.size() > 6) {
            saved.removeFirst();
        }
    }

    private static boolean in(int value, int least, int greatest) {
        return least <= value && value <= greatest;
    }

    int setWeight(int weight, int value) {
        if (!in(weight, 0, 5)) return NO_SUCH;
        if (!in(value, 0, 50)) return BAD_VALUE;
        save();
        int old = s.weights[weight];
        s.weights[weight] = value;
        return old;
    }

    int setThreshold(int threshold) {
        if (!in(threshold, 0, 200)) return BAD_VALUE;
        save();
        int old = s.threshold;
        s.threshold = threshold;
        return old;
    }

    int setMoney(int rate, int cap) {
        if (!in(rate, 0, 500) || !in(cap, 0, 9999)) return BAD_VALUE;
        save();
        int old = s.rate;
        s.rate = rate;
        s.cap = cap;
        return old;
    }

    int found(int airport, int tag, int illegible, int colour, int kind, int marks) {
        if (!in(airport, 0, 7) || !in(tag, 0, 999999) || !in(illegible, 0, 63) || !in(colour, 0, 7)
                || !in(kind, 0, 11) || !in(marks, 0, 255)) return BAD_VALUE;
        if (s.bags.size() == 12) return LIMIT;
        save();
        char[] signs = String.format("%06d", tag).toCharArray();
        for (int i = 0; i < 6; i++) {
            if ((illegible & 1 << i) != 0) signs[i] = '?';
        }
        return add(new Bag(airport, new String(signs), colour, kind, marks, s.day));
    }

    private int add(Bag bag) {
        s.bags.put(s.nextBag, bag);
        return s.nextBag++;
    }

    int claim(int tag, int colour, int kind, int marks, int route, int worth, int age, int ago) {
        if (!in(tag, 0, 999999) || !in(colour, 0, 7) || !in(kind, 0, 11) || !in(marks, 0, 255)
                || !in(route, 1, 255) || !in(worth, 1, 99999) || !in(age, 0, 20) || !in(ago, 0, 30)) return BAD_VALUE;
        if (s.claims.size() == 10) return LIMIT;
        save();
        s.claims.put(s.nextClaim,
                new Claim(String.format("%06d", tag), colour, kind, marks, route, worth, age, s.day - ago));
        return s.nextClaim++;
    }

    int match(int claim, int bag) {
        if (!s.claims.containsKey(claim) || !s.bags.containsKey(bag)) return NO_SUCH;
        if (s.bagOfClaim.containsKey(claim) || s.bagOfClaim.containsValue(bag)) return NOT_POSSIBLE;
        int score = score(claim, bag, 0);
        if (score == NONE) return NOT_POSSIBLE;
        save();
        s.bagOfClaim.put(claim, bag);
        return score;
    }

    int unmatch(int claim) {
        if (!s.claims.containsKey(claim)) return NO_SUCH;
        if (!s.bagOfClaim.containsKey(claim)) return NOT_POSSIBLE;
        save();
        return s.bagOfClaim.remove(claim);
    }

    int matchAll() {
        save();
        int made = 0;
        while (matchGreatest() >= 0) made++;
        return made;
    }

    private int matchGreatest() {
        int greatest = -1;
        int bestClaim = 0;
        int bestBag = 0;
        for (int claim : s.claims.keySet()) {
            for (int bag : s.bags.keySet()) {
                int score = score(claim, bag, 0);
                if (isFreePair(claim, bag) && score >= s.threshold && score > greatest) {
                    greatest = score;
                    bestClaim = claim;
                    bestBag = bag;
                }
            }
        }
        if (greatest >= 0) s.bagOfClaim.put(bestClaim, bestBag);
        return greatest;
    }

    private boolean isFreePair(int claim, int bag) {
        return !s.bagOfClaim.containsKey(claim) && !s.bagOfClaim.containsValue(bag);
    }

    int deliver(int claim) {
        if (!s.claims.containsKey(claim)) return NO_SUCH;
        if (!s.bagOfClaim.containsKey(claim)) return NOT_POSSIBLE;
        save();
        int pay = ifEnded(claim, 0, 0);
        s.bags.remove(s.bagOfClaim.remove(claim));
        s.claims.remove(claim);
        s.ended[0]++;
        s.ended[3] += pay;
        return pay;
    }

    int giveUp(int claim) {
        Claim c = s.claims.get(claim);
        if (c == null) return NO_SUCH;
        if (s.bagOfClaim.containsKey(claim) || s.day < c.flight + 21) return NOT_POSSIBLE;
        save();
        int pay = ifEnded(claim, 0, 1);
        s.claims.remove(claim);
        s.ended[1]++;
        s.ended[3] += pay;
        return pay;
    }

    int auction(int bag) {
        Bag b = s.bags.get(bag);
        if (b == null) return NO_SUCH;
        if (s.bagOfClaim.containsValue(bag) || s.day < b.day + 90) return NOT_POSSIBLE;
        save();
        s.bags.remove(bag);
        s.ended[2]++;
        return s.bags.size();
    }

    int pass(int days) {
        if (!in(days, 1, 400)) return BAD_VALUE;
        if (s.day + days > 9999) return LIMIT;
        save();
        return s.day += days;
    }

    int count(int what) {
        if (!in(what, 0, 7)) return BAD_VALUE;
        int[] first = {s.day, s.bags.size(), s.claims.size(), s.bagOfClaim.size()};
        return what < 4 ? first[what] : s.ended[what - 4];
    }

    int bag(int bag, int what) {
        Bag b = s.bags.get(bag);
        if (b == null) return NO_SUCH;
        if (!in(what, 0, 7)) return BAD_VALUE;
        int illegible = 0;
        for (int i = 0; i < 6; i++) {
            if (b.tag.charAt(i) == '?') illegible += 1 << i;
        }
        int claimOfBag = NONE;
        for (Map.Entry<Integer, Integer> e : s.bagOfClaim.entrySet()) {
            if (e.getValue() == bag) claimOfBag = e.getKey();
        }
        int[] all = {b.airport, Integer.parseInt(b.tag.replace('?', '0')), illegible, b.colour, b.kind, b.marks,
            b.day, claimOfBag};
        return all[what];
    }

    int claimOf(int claim, int what) {
        Claim c = s.claims.get(claim);
        if (c == null) return NO_SUCH;
        if (!in(what, 0, 8)) return BAD_VALUE;
        int[] all = {Integer.parseInt(c.tag), c.colour, c.kind, c.marks, c.route, c.worth, c.age, c.flight,
            s.bagOfClaim.getOrDefault(claim, NONE)};
        return all[what];
    }

    int score(int claim, int bag, int part) {
        Claim c = s.claims.get(claim);
        Bag b = s.bags.get(bag);
        if (c == null || b == null) return NO_SUCH;
        if (!in(part, 0, 6)) return BAD_VALUE;
        if (b.day < c.flight) return NONE;
        int[] w = s.weights;
        int[] parts = new int[7];
        for (int i = 0; i < 6; i++) {
            if (b.tag.charAt(i) == '?') continue;
            parts[1] += b.tag.charAt(i) == c.tag.charAt(i) ? w[0] : -(3 * w[0] / 2);
        }
        if (b.colour == c.colour) parts[2] = w[1];
        else if ((b.colour + 1) % 8 == c.colour || (c.colour + 1) % 8 == b.colour) parts[2] = w[1] / 3;
        if (b.kind == c.kind) parts[3] = w[2];
        else if (b.kind / 4 == c.kind / 4) parts[3] = w[2] / 3;
        for (int mark = 1; mark < 256; mark *= 2) {
            boolean one = (b.marks & mark) != 0;
            boolean other = (c.marks & mark) != 0;
            if (one && other) parts[4] += w[3];
            else if (one || other) parts[4] -= w[3] / 2;
        }
        parts[5] = (c.route & 1 << b.airport) != 0 ? w[4] : -w[4];
        for (int day = c.flight; day < b.day && day < c.flight + 10; day++) {
            parts[6] -= w[5];
        }
        for (int i = 1; i < 7; i++) {
            parts[0] += parts[i];
        }
        return parts[part];
    }

    int suggest(int claim, int rank) {
        if (!s.claims.containsKey(claim)) return NO_SUCH;
        List<Integer> bags = new ArrayList<>();
        for (int bag : s.bags.keySet()) {
            if (!s.bagOfClaim.containsValue(bag) && score(claim, bag, 0) >= s.threshold) bags.add(bag);
        }
        bags.sort((a, b) -> score(claim, b, 0) - score(claim, a, 0));
        return in(rank, 0, bags.size() - 1) ? bags.get(rank) : NO_SUCH;
    }

    int sameDigits(int claim, int bag) {
        Claim c = s.claims.get(claim);
        Bag b = s.bags.get(bag);
        if (c == null || b == null) return NO_SUCH;
        int places = 0;
        for (int i = 0; i < 6; i++) {
            if (c.tag.charAt(i) == b.tag.charAt(i)) places += 1 << i;
        }
        return places;
    }

    int bestTotal() {
        Map<Integer, Integer> best = new HashMap<>(Map.of(0, 0));
        List<Integer> bags = new ArrayList<>(s.bags.keySet());
        for (int claim : s.claims.keySet()) {
            Map<Integer, Integer> next = new HashMap<>(best);
            for (int i = 0; i < bags.size(); i++) {
                int score = score(claim, bags.get(i), 0);
                if (!isFreePair(claim, bags.get(i)) || score < s.threshold) continue;
                for (Map.Entry<Integer, Integer> e : best.entrySet()) {
                    if ((e.getKey() & 1 << i) == 0) {
                        next.merge(e.getKey() | 1 << i, e.getValue() + score, Math::max);
                    }
                }
            }
            best = next;
        }
        return best.values().stream().max(Integer::compare).get();
    }

    int totalOfAll() {
        State before = s;
        s = s.copy();
        int total = 0;
        for (int score = matchGreatest(); score >= 0; score = matchGreatest()) {
            total += score;
        }
        s = before;
        return total;
    }

    int thresholdFor(int claim, int bag) {
        int score = score(claim, bag, 0);
        if (score == NO_SUCH) return NO_SUCH;
        for (int threshold = 200; threshold >= 0; threshold--) {
            if (score >= threshold) return threshold;
        }
        return NONE;
    }

    int ifEnded(int claim, int days, int what) {
        Claim c = s.claims.get(claim);
        if (c == null) return NO_SUCH;
        if (!in(days, 0, 400) || !in(what, 0, 1)) return BAD_VALUE;
        if (what == 0) return Math.min(c.worth, s.rate * Math.min(10, s.day + days - c.flight));
        return Math.min(s.cap, c.worth * Math.max(2, 10 - c.age) / 10);
    }

    int type(int code) {
        if (!in(code, 33, 126)) return BAD_VALUE;
        if (text.length() == 80) return LIMIT;
        text += (char) code;
        return text.length();
    }

    int clearText() {
        int length = text.length();
        text = "";
        return length;
    }

    int syntaxError() {
        if (LIST.matcher(text).matches()) return NONE;
        for (int i = 0; i < text.length(); i++) {
            if (!canGrow(text.substring(0, i + 1))) return i;
        }
        return text.length();
    }

    private static boolean canGrow(String start) {
        var matcher = LIST.matcher(start);
        return matcher.matches() || matcher.hitEnd();
    }

    int readBags() {
        int error = syntaxError();
        if (error != NONE) {
            int bag = (int) text.substring(0, error).chars().filter(sign -> sign == ';').count();
            problem = new int[] {BAD_TEXT, bag, error};
            return BAD_TEXT;
        }
        String[] bags = text.split(";");
        if (s.bags.size() + bags.length > 12) {
            problem = new int[] {LIMIT, 12 - s.bags.size(), NONE};
            return LIMIT;
        }
        save();
        for (String b : bags) {
            int marks = 0;
            for (char sign : b.substring(11).toCharArray()) {
                marks += 1 << "stuvwxyz".indexOf(sign);
            }
            add(new Bag(b.charAt(0) - '0', b.substring(2, 8), b.charAt(9) - '0', b.charAt(10) - 'a', marks, s.day));
        }
        text = "";
        return bags.length;
    }

    int lastBag() {
        return s.nextBag - 1;
    }

    int lastClaim() {
        return s.nextClaim - 1;
    }

    int problem(int what) {
        if (!in(what, 0, 2)) return BAD_VALUE;
        return problem == null ? NONE : problem[what];
    }

    int undo() {
        if (saved.isEmpty()) return NOT_POSSIBLE;
        s = saved.removeLast();
        return saved.size();
    }

    long digest() {
        long hash = 234;
        for (int what = 0; what < 8; what++) hash = 31 * hash + count(what);
        for (int bag : s.bags.keySet()) {
            hash = 31 * hash + bag;
            for (int what = 0; what < 8; what++) hash = 31 * hash + bag(bag, what);
        }
        for (int claim : s.claims.keySet()) {
            hash = 31 * hash + claim;
            for (int what = 0; what < 9; what++) hash = 31 * hash + claimOf(claim, what);
            for (int bag : s.bags.keySet()) hash = 31 * hash + score(claim, bag, 0);
        }
        hash = 31 * hash + bestTotal();
        return 31 * hash + totalOfAll();
    }
}
