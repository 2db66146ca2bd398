import java.util.Random;

/** Runs of 512 calls, the same ones every time, that must answer as PlainOffice does. */
public final class RandomRunsTest {
    private static final int RUNS = 400;
    private static final int CALLS = 512;
    private static final Checks c = new Checks("RandomRunsTest");

    private final Random random;
    private final int strangeness;
    private final LuggageTracing x = new LuggageTracing();
    private final PlainOffice due = new PlainOffice();
    private final int seed;
    private int calls;

    private RandomRunsTest(int seed) {
        this.seed = seed;
        random = new Random(seed);
        strangeness = new int[] {0, 2, 5, 20}[seed % 4];
    }

    public static void main(String[] args) {
        for (int seed = 0; seed < RUNS && c.wrong() < 20; seed++) {
            new RandomRunsTest(seed).run();
        }
        c.end();
    }

    private void run() {
        while (calls < CALLS && c.wrong() < 20) {
            if (calls < 200 && random.nextInt(3) == 0) {
                register();
            } else if (random.nextInt(12) == 0) {
                text();
            } else {
                oneCall();
            }
        }
    }

    private void oneCall() {
        int which = random.nextInt(27);
        if (which == 11) {
            call(which, pick(0, 7), 0);
        } else if (which == 9) {
            call(which, number(due.lastBag()), 0);
        } else if (which == 12) {
            call(which, number(due.lastBag()), pick(0, 7));
        } else if (which == 13) {
            call(which, number(due.lastClaim()), pick(0, 8));
        } else if (which == 15 || which == 16) {
            call(which, number(due.lastClaim()), pick(0, 4));
        } else {
            call(which, number(due.lastClaim()), number(due.lastBag()));
        }
    }

    private int number(int last) {
        return pick(Math.max(0, last - 12), last);
    }

    private int pick(int least, int greatest) {
        if (random.nextInt(100) < strangeness) {
            int[] strange = {least - 1, greatest + 1, -1, Integer.MIN_VALUE, Integer.MAX_VALUE, 1 << 16};
            return strange[random.nextInt(strange.length)];
        }
        return least + random.nextInt(greatest - least + 1);
    }

    // Few digits, colours, kinds and marks, so that scores are high and often the same.
    private int tag() {
        int tag = 123456;
        int unit = 1;
        for (int place = 0; place < 6; place++) {
            if (random.nextInt(4) == 0) {
                tag += unit * random.nextInt(2);
            }
            unit *= 10;
        }
        return random.nextInt(10) == 0 ? pick(0, 999999) : tag;
    }

    private int few(int all) {
        return random.nextInt(4) == 0 ? pick(0, all) : random.nextInt(2);
    }

    private int mask(int all) {
        return random.nextInt(4) == 0 ? pick(0, all) : random.nextBoolean() ? 0 : 1 << random.nextInt(6);
    }

    private void register() {
        int tag = tag();
        int colour = few(7);
        int kind = few(11);
        int marks = mask(255);
        if (random.nextBoolean()) {
            int airport = few(7);
            int illegible = mask(63);
            same("found(" + airport + ", " + tag + ", " + illegible + ", " + colour + ", " + kind + ", " + marks + ")",
                    x.found(airport, tag, illegible, colour, kind, marks),
                    due.found(airport, tag, illegible, colour, kind, marks));
        } else {
            int route = random.nextInt(3) == 0 ? pick(1, 255) : 255;
            int worth = random.nextBoolean() ? pick(1, 99999) : pick(1, 500);
            int age = pick(0, 20);
            int ago = random.nextBoolean() ? pick(0, 30) : 0;
            same("claim(" + tag + ", " + colour + ", " + kind + ", " + marks + ", " + route + ", " + worth + ", "
                    + age + ", " + ago + ")",
                    x.claim(tag, colour, kind, marks, route, worth, age, ago),
                    due.claim(tag, colour, kind, marks, route, worth, age, ago));
        }
    }

    private void text() {
        StringBuilder text = new StringBuilder();
        int bags = 1 + random.nextInt(4);
        for (int bag = 0; bag < bags; bag++) {
            text.append(bag == 0 ? "" : ";").append(random.nextInt(8)).append(':');
            for (int place = 0; place < 6; place++) {
                text.append("12345678?0".charAt(random.nextInt(3) == 0 ? 8 : place));
            }
            text.append(':').append(random.nextInt(8)).append((char) ('a' + random.nextInt(12)));
            for (char mark = 's'; mark <= 'z'; mark++) {
                text.append(random.nextInt(5) == 0 ? "" + mark : "");
            }
        }
        if (random.nextInt(3) == 0) {
            text.setCharAt(random.nextInt(text.length()), "0:;?als".charAt(random.nextInt(7)));
        }
        if (random.nextInt(5) == 0) {
            text.setLength(random.nextInt(text.length()));
        }
        for (int i = 0; i < text.length() && calls < CALLS; i++) {
            same("type(" + (int) text.charAt(i) + ")", x.type(text.charAt(i)), due.type(text.charAt(i)));
        }
        same("syntaxError()", x.syntaxError(), due.syntaxError());
        same("readBags()", x.readBags(), due.readBags());
        call(24, pick(0, 2), 0);
        if (random.nextBoolean()) {
            same("clearText()", x.clearText(), due.clearText());
        }
    }

    private void call(int which, int a, int b) {
        String args = " of " + a + ", " + b;
        switch (which) {
            case 0: int w = pick(0, 5); int v = pick(0, 50);
                same("setWeight(" + w + ", " + v + ")", x.setWeight(w, v), due.setWeight(w, v)); break;
            case 1: int t = random.nextInt(3) == 0 ? pick(0, 200) : pick(0, 70);
                same("setThreshold(" + t + ")", x.setThreshold(t), due.setThreshold(t)); break;
            case 2: int r = pick(0, 500); int p = pick(0, 9999);
                same("setMoney(" + r + ", " + p + ")", x.setMoney(r, p), due.setMoney(r, p)); break;
            case 3: case 4: same("match" + args, x.match(a, b), due.match(a, b)); break;
            case 5: same("unmatch" + args, x.unmatch(a), due.unmatch(a)); break;
            case 6: same("matchAll()", x.matchAll(), due.matchAll()); break;
            case 7: same("deliver" + args, x.deliver(a), due.deliver(a)); break;
            case 8: same("giveUp" + args, x.giveUp(a), due.giveUp(a)); break;
            case 9: same("auction" + args, x.auction(a), due.auction(a)); break;
            case 10: int d = random.nextInt(3) == 0 ? pick(1, 400) : pick(1, 9);
                same("pass(" + d + ")", x.pass(d), due.pass(d)); break;
            case 11: same("count" + args, x.count(a), due.count(a)); break;
            case 12: same("bag" + args, x.bag(a, b), due.bag(a, b)); break;
            case 13: same("claimOf" + args, x.claimOf(a, b), due.claimOf(a, b)); break;
            case 14: int part = pick(0, 6);
                same("score" + args + ", " + part, x.score(a, b, part), due.score(a, b, part)); break;
            case 15: case 16: same("suggest" + args, x.suggest(a, b), due.suggest(a, b)); break;
            case 17: same("sameDigits" + args, x.sameDigits(a, b), due.sameDigits(a, b)); break;
            case 18: same("bestTotal()", x.bestTotal(), due.bestTotal()); break;
            case 19: same("totalOfAll()", x.totalOfAll(), due.totalOfAll()); break;
            case 20: same("thresholdFor" + args, x.thresholdFor(a, b), due.thresholdFor(a, b)); break;
            case 21: int days = pick(0, 12); int what = pick(0, 1);
                same("ifEnded(" + a + ", " + days + ", " + what + ")", x.ifEnded(a, days, what),
                        due.ifEnded(a, days, what)); break;
            case 22: same("undo()", x.undo(), due.undo()); break;
            case 23: same("readBags()", x.readBags(), due.readBags()); break;
            case 24: int kind = pick(0, 2); same("problem(" + kind + ")", x.problem(kind), due.problem(kind)); break;
            default: same("digest()", x.digest(), due.digest()); break;
        }
    }

    private void same(String call, long got, long want) {
        calls++;
        c.due("run " + seed + ", call " + calls + ": " + call, got, want);
    }
}
