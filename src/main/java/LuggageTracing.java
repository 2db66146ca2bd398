import java.util.Arrays;

/** A tracing office for lost luggage; DOC.md promises what each call answers. */
public final class LuggageTracing {
    public static final int NO_SUCH = -10001;
    public static final int BAD_VALUE = -10002;
    public static final int NOT_POSSIBLE = -10003;
    public static final int LIMIT = -10004;
    public static final int BAD_TEXT = -10005;
    public static final int NONE = -10006;

    private static final int MAX_BAGS = 12;
    private static final int MAX_CLAIMS = 10;
    private static final int MAX_TEXT = 80;
    private static final int MAX_SAVED = 6;
    private static final int MAX_DAY = 9999;

    private static final int MAX_WEIGHT = 50;
    private static final int MAX_THRESHOLD = 200;
    private static final int MAX_RATE = 500;
    private static final int MAX_CAP = 9999;

    private static final int MAX_AIRPORT = 7;
    private static final int MAX_TAG = 999999;
    private static final int TAG_PLACES = 6;
    private static final int ALL_PLACES = 63;
    private static final int MAX_COLOUR = 7;
    private static final int MAX_KIND = 11;
    private static final int ALL_MARKS = 255;
    private static final int ALL_AIRPORTS = 255;
    private static final int MAX_WORTH = 99999;
    private static final int MAX_AGE = 20;
    private static final int MAX_AGO = 30;
    private static final int MAX_PASS = 400;

    private static final int MOST_DAYS_LATE = 10;
    private static final int MOST_DAYS_PAID = 10;
    private static final int DAYS_BEFORE_GIVING_UP = 21;
    private static final int DAYS_BEFORE_AUCTION = 90;

    // The columns of a bag and of a claim stand in the order in which bag() and claimOf() number them.
    private static final int BAG_AIRPORT = 0;
    private static final int BAG_TAG = 1;
    private static final int BAG_ILLEGIBLE = 2;
    private static final int BAG_COLOUR = 3;
    private static final int BAG_KIND = 4;
    private static final int BAG_MARKS = 5;
    private static final int BAG_DAY = 6;
    private static final int BAG_COLUMNS = 8;

    private static final int CLAIM_TAG = 0;
    private static final int CLAIM_COLOUR = 1;
    private static final int CLAIM_KIND = 2;
    private static final int CLAIM_MARKS = 3;
    private static final int CLAIM_ROUTE = 4;
    private static final int CLAIM_WORTH = 5;
    private static final int CLAIM_AGE = 6;
    private static final int CLAIM_FLIGHT = 7;
    private static final int CLAIM_COLUMNS = 9;

    private static final int COUNTS = 8;
    private static final int SCORE_PARTS = 6;

    // Likely scores reach a threshold that is never negative, so no likely score looks like this one.
    private static final int UNLIKELY = -1;

    private final Office office;
    private final History history;
    private final BagText text;
    private final Scores scores;
    private final Pairs pairs;
    private final Assignment assignment;
    private final int[] lastProblem;
    private final int[] bagOfText;
    private final int[] likelyOfClaim;

    public LuggageTracing() {
        office = new Office();
        history = new History();
        text = new BagText();
        scores = new Scores();
        pairs = new Pairs();
        assignment = new Assignment();
        lastProblem = new int[3];
        Arrays.fill(lastProblem, NONE);
        bagOfText = new int[BAG_COLUMNS];
        likelyOfClaim = new int[MAX_BAGS];
    }

    // ---- settings

    public int setWeight(int weight, int value) {
        if (weight < 0 || weight >= office.weights.length) {
            return NO_SUCH;
        }
        if (outside(value, 0, MAX_WEIGHT)) {
            return BAD_VALUE;
        }
        history.save(office);
        int previous = office.weights[weight];
        office.weights[weight] = value;
        return previous;
    }

    public int setThreshold(int threshold) {
        if (outside(threshold, 0, MAX_THRESHOLD)) {
            return BAD_VALUE;
        }
        history.save(office);
        int previous = office.threshold;
        office.threshold = threshold;
        return previous;
    }

    public int setMoney(int rate, int cap) {
        if (outside(rate, 0, MAX_RATE) || outside(cap, 0, MAX_CAP)) {
            return BAD_VALUE;
        }
        history.save(office);
        int previous = office.rate;
        office.rate = rate;
        office.cap = cap;
        return previous;
    }

    // ---- bags and claims

    public int found(int airport, int tag, int illegible, int colour, int kind, int marks) {
        if (outside(airport, 0, MAX_AIRPORT) || outside(tag, 0, MAX_TAG) || outside(illegible, 0, ALL_PLACES)
                || outside(colour, 0, MAX_COLOUR) || outside(kind, 0, MAX_KIND) || outside(marks, 0, ALL_MARKS)) {
            return BAD_VALUE;
        }
        if (office.bags.isFull()) {
            return LIMIT;
        }
        history.save(office);
        return office.addBag(airport, tag, illegible, colour, kind, marks);
    }

    public int claim(int tag, int colour, int kind, int marks, int route, int worth, int age, int ago) {
        if (outside(tag, 0, MAX_TAG) || outside(colour, 0, MAX_COLOUR) || outside(kind, 0, MAX_KIND)
                || outside(marks, 0, ALL_MARKS) || outside(route, 1, ALL_AIRPORTS)
                || outside(worth, 1, MAX_WORTH) || outside(age, 0, MAX_AGE) || outside(ago, 0, MAX_AGO)) {
            return BAD_VALUE;
        }
        if (office.claims.isFull()) {
            return LIMIT;
        }
        history.save(office);
        Table claims = office.claims;
        int row = claims.append();
        claims.put(row, CLAIM_TAG, tag);
        claims.put(row, CLAIM_COLOUR, colour);
        claims.put(row, CLAIM_KIND, kind);
        claims.put(row, CLAIM_MARKS, marks);
        claims.put(row, CLAIM_ROUTE, route);
        claims.put(row, CLAIM_WORTH, worth);
        claims.put(row, CLAIM_AGE, age);
        claims.put(row, CLAIM_FLIGHT, office.day - ago);
        return claims.numberOf(row);
    }

    public int match(int claim, int bag) {
        int claimRow = office.claims.rowOf(claim);
        int bagRow = office.bags.rowOf(bag);
        if (claimRow < 0 || bagRow < 0) {
            return NO_SUCH;
        }
        if (!office.claims.isFree(claimRow) || !office.bags.isFree(bagRow)) {
            return NOT_POSSIBLE;
        }
        int whole = scores.part(office, claimRow, bagRow, 0);
        if (whole == NONE) {
            return NOT_POSSIBLE;
        }
        history.save(office);
        office.join(claimRow, bagRow);
        return whole;
    }

    public int unmatch(int claim) {
        int claimRow = office.claims.rowOf(claim);
        if (claimRow < 0) {
            return NO_SUCH;
        }
        if (office.claims.isFree(claimRow)) {
            return NOT_POSSIBLE;
        }
        history.save(office);
        int bag = office.claims.partner(claimRow);
        office.claims.setPartner(claimRow, NONE);
        office.bags.setPartner(office.bags.rowOf(bag), NONE);
        return bag;
    }

    public int matchAll() {
        history.save(office);
        pairs.fill(office, scores);
        for (int made = 0; made < MAX_CLAIMS; made++) {
            if (pairs.takeGreatest() == UNLIKELY) {
                return made;
            }
            office.join(pairs.claimRow, pairs.bagRow);
        }
        return MAX_CLAIMS;
    }

    public int deliver(int claim) {
        int claimRow = office.claims.rowOf(claim);
        if (claimRow < 0) {
            return NO_SUCH;
        }
        if (office.claims.isFree(claimRow)) {
            return NOT_POSSIBLE;
        }
        history.save(office);
        int amount = office.payForDelivery(claimRow, office.day);
        office.bags.remove(office.bags.rowOf(office.claims.partner(claimRow)));
        office.claims.remove(claimRow);
        office.deliveries++;
        office.paid += amount;
        return amount;
    }

    public int giveUp(int claim) {
        int claimRow = office.claims.rowOf(claim);
        if (claimRow < 0) {
            return NO_SUCH;
        }
        int days = office.day - office.claims.get(claimRow, CLAIM_FLIGHT);
        if (!office.claims.isFree(claimRow) || days < DAYS_BEFORE_GIVING_UP) {
            return NOT_POSSIBLE;
        }
        history.save(office);
        int amount = office.payForGivingUp(claimRow);
        office.claims.remove(claimRow);
        office.givenUp++;
        office.paid += amount;
        return amount;
    }

    public int auction(int bag) {
        int bagRow = office.bags.rowOf(bag);
        if (bagRow < 0) {
            return NO_SUCH;
        }
        int days = office.day - office.bags.get(bagRow, BAG_DAY);
        if (!office.bags.isFree(bagRow) || days < DAYS_BEFORE_AUCTION) {
            return NOT_POSSIBLE;
        }
        history.save(office);
        office.bags.remove(bagRow);
        office.sold++;
        return office.bags.rows();
    }

    public int pass(int days) {
        if (outside(days, 1, MAX_PASS)) {
            return BAD_VALUE;
        }
        if (office.day + days > MAX_DAY) {
            return LIMIT;
        }
        history.save(office);
        office.day += days;
        return office.day;
    }

    // ---- asking

    public int count(int what) {
        switch (what) {
            case 0: return office.day;
            case 1: return office.bags.rows();
            case 2: return office.claims.rows();
            case 3: return office.claims.matchedRows();
            case 4: return office.deliveries;
            case 5: return office.givenUp;
            case 6: return office.sold;
            case 7: return office.paid;
            default: return BAD_VALUE;
        }
    }

    public int bag(int bag, int what) {
        return tell(office.bags, bag, what);
    }

    public int claimOf(int claim, int what) {
        return tell(office.claims, claim, what);
    }

    public int score(int claim, int bag, int part) {
        int claimRow = office.claims.rowOf(claim);
        int bagRow = office.bags.rowOf(bag);
        if (claimRow < 0 || bagRow < 0) {
            return NO_SUCH;
        }
        if (outside(part, 0, SCORE_PARTS)) {
            return BAD_VALUE;
        }
        return scores.part(office, claimRow, bagRow, part);
    }

    public int suggest(int claim, int rank) {
        int claimRow = office.claims.rowOf(claim);
        if (claimRow < 0) {
            return NO_SUCH;
        }
        for (int bagRow = 0; bagRow < MAX_BAGS; bagRow++) {
            likelyOfClaim[bagRow] = scores.likely(office, claimRow, bagRow);
        }
        for (int bagRow = 0; bagRow < MAX_BAGS; bagRow++) {
            if (likelyOfClaim[bagRow] != UNLIKELY && betterBags(bagRow) == rank) {
                return office.bags.numberOf(bagRow);
            }
        }
        return NO_SUCH;
    }

    public int sameDigits(int claim, int bag) {
        int claimRow = office.claims.rowOf(claim);
        int bagRow = office.bags.rowOf(bag);
        if (claimRow < 0 || bagRow < 0) {
            return NO_SUCH;
        }
        return Tags.common(office.claims.get(claimRow, CLAIM_TAG),
                office.bags.get(bagRow, BAG_TAG), office.bags.get(bagRow, BAG_ILLEGIBLE));
    }

    // ---- forecasts; they change nothing

    public int bestTotal() {
        pairs.fill(office, scores);
        return assignment.bestSum(pairs);
    }

    public int totalOfAll() {
        pairs.fill(office, scores);
        int total = 0;
        for (int made = 0; made < MAX_CLAIMS; made++) {
            int greatest = pairs.takeGreatest();
            if (greatest == UNLIKELY) {
                return total;
            }
            total += greatest;
        }
        return total;
    }

    public int thresholdFor(int claim, int bag) {
        int claimRow = office.claims.rowOf(claim);
        int bagRow = office.bags.rowOf(bag);
        if (claimRow < 0 || bagRow < 0) {
            return NO_SUCH;
        }
        int whole = scores.part(office, claimRow, bagRow, 0);
        if (whole < 0) {
            return NONE;
        }
        return Math.min(whole, MAX_THRESHOLD);
    }

    public int ifEnded(int claim, int days, int what) {
        int claimRow = office.claims.rowOf(claim);
        if (claimRow < 0) {
            return NO_SUCH;
        }
        if (outside(days, 0, MAX_PASS) || outside(what, 0, 1)) {
            return BAD_VALUE;
        }
        if (what == 0) {
            return office.payForDelivery(claimRow, office.day + days);
        }
        return office.payForGivingUp(claimRow);
    }

    // ---- text

    public int type(int code) {
        if (outside(code, 33, 126)) {
            return BAD_VALUE;
        }
        if (text.length() >= MAX_TEXT) {
            return LIMIT;
        }
        text.append(code);
        return text.length();
    }

    public int clearText() {
        int previous = text.length();
        text.clear();
        return previous;
    }

    public int syntaxError() {
        text.check();
        return text.errorAt;
    }

    public int readBags() {
        text.check();
        if (text.errorAt != NONE) {
            return refuse(BAD_TEXT, text.lastBag, text.errorAt);
        }
        int room = MAX_BAGS - office.bags.rows();
        int bags = text.lastBag + 1;
        if (bags > room) {
            return refuse(LIMIT, room, NONE);
        }
        history.save(office);
        int start = 0;
        for (int read = 0; read < bags; read++) {
            start = text.readBag(start, bagOfText) + 1;
            office.addBag(bagOfText[BAG_AIRPORT], bagOfText[BAG_TAG], bagOfText[BAG_ILLEGIBLE],
                    bagOfText[BAG_COLOUR], bagOfText[BAG_KIND], bagOfText[BAG_MARKS]);
        }
        text.clear();
        return bags;
    }

    public int problem(int what) {
        if (what < 0 || what >= lastProblem.length) {
            return BAD_VALUE;
        }
        return lastProblem[what];
    }

    // ---- undo

    public int undo() {
        if (history.saved() == 0) {
            return NOT_POSSIBLE;
        }
        history.restore(office);
        return history.saved();
    }

    public long digest() {
        long hash = 234;
        for (int what = 0; what < COUNTS; what++) {
            hash = 31 * hash + count(what);
        }
        for (int row = 0; row < office.bags.rows(); row++) {
            hash = office.bags.hashRow(hash, row);
        }
        for (int row = 0; row < office.claims.rows(); row++) {
            hash = office.claims.hashRow(hash, row);
            for (int bagRow = 0; bagRow < office.bags.rows(); bagRow++) {
                hash = 31 * hash + scores.part(office, row, bagRow, 0);
            }
        }
        hash = 31 * hash + bestTotal();
        return 31 * hash + totalOfAll();
    }

    // ---- parts of the calls above

    private static boolean outside(int value, int least, int greatest) {
        return value < least || value > greatest;
    }

    private static int tell(Table table, int number, int what) {
        int row = table.rowOf(number);
        if (row < 0) {
            return NO_SUCH;
        }
        if (outside(what, 0, table.width - 1)) {
            return BAD_VALUE;
        }
        return table.get(row, what);
    }

    private int betterBags(int bagRow) {
        int better = 0;
        for (int other = 0; other < MAX_BAGS; other++) {
            boolean first = other < bagRow;
            int lead = likelyOfClaim[other] - likelyOfClaim[bagRow];
            if (lead > 0 || lead == 0 && first) {
                better++;
            }
        }
        return better;
    }

    private int refuse(int code, int bagNumber, int index) {
        lastProblem[0] = code;
        lastProblem[1] = bagNumber;
        lastProblem[2] = index;
        return code;
    }

    /** Rows of numbers; each row has a number of its own, and the last column tells its partner. */
    private static final class Table {
        final int width;
        private final int[] cells;
        private final int[] numbers;
        private int rows;
        private int lastNumber;

        Table(int room, int columns) {
            width = Math.max(columns, 1);
            numbers = new int[Math.max(room, 0)];
            cells = new int[numbers.length * width];
        }

        int rows() {
            return rows;
        }

        boolean isFull() {
            return rows >= numbers.length;
        }

        int rowOf(int number) {
            for (int row = 0; row < rows && row < numbers.length; row++) {
                if (numbers[row] == number) {
                    return row;
                }
            }
            return -1;
        }

        int numberOf(int row) {
            return hasRow(row) ? numbers[row] : NO_SUCH;
        }

        int get(int row, int column) {
            if (!hasRow(row) || outside(column, 0, width - 1)) {
                return NONE;
            }
            return cells[row * width + column];
        }

        void put(int row, int column, int value) {
            if (hasRow(row) && !outside(column, 0, width - 1)) {
                cells[row * width + column] = value;
            }
        }

        int partner(int row) {
            return get(row, width - 1);
        }

        void setPartner(int row, int number) {
            put(row, width - 1, number);
        }

        boolean isFree(int row) {
            return hasRow(row) && cells[row * width + width - 1] == NONE;
        }

        int matchedRows() {
            int matched = 0;
            for (int row = 0; row < rows; row++) {
                if (!isFree(row)) {
                    matched++;
                }
            }
            return matched;
        }

        int append() {
            if (isFull()) {
                return -1;
            }
            int row = rows;
            rows++;
            lastNumber++;
            numbers[row] = lastNumber;
            setPartner(row, NONE);
            return row;
        }

        void remove(int row) {
            if (!hasRow(row)) {
                return;
            }
            int behind = rows - row - 1;
            System.arraycopy(numbers, row + 1, numbers, row, behind);
            System.arraycopy(cells, (row + 1) * width, cells, row * width, behind * width);
            rows--;
        }

        long hashRow(long start, int row) {
            long hash = 31 * start + numberOf(row);
            for (int column = 0; column < width; column++) {
                hash = 31 * hash + get(row, column);
            }
            return hash;
        }

        void copyFrom(Table other) {
            System.arraycopy(other.cells, 0, cells, 0, Math.min(cells.length, other.cells.length));
            System.arraycopy(other.numbers, 0, numbers, 0, Math.min(numbers.length, other.numbers.length));
            rows = Math.min(other.rows, numbers.length);
            lastNumber = other.lastNumber;
        }

        private boolean hasRow(int row) {
            return row >= 0 && row < rows && row < numbers.length;
        }
    }

    /** The state that undo() restores. */
    private static final class Office {
        final Table bags;
        final Table claims;
        final int[] weights;
        int day;
        int threshold;
        int rate;
        int cap;
        int deliveries;
        int givenUp;
        int sold;
        int paid;

        Office() {
            bags = new Table(MAX_BAGS, BAG_COLUMNS);
            claims = new Table(MAX_CLAIMS, CLAIM_COLUMNS);
            weights = new int[] {8, 10, 12, 5, 15, 1};
            threshold = 40;
            rate = 30;
            cap = 2000;
        }

        int addBag(int airport, int tag, int illegible, int colour, int kind, int marks) {
            int row = bags.append();
            bags.put(row, BAG_AIRPORT, airport);
            bags.put(row, BAG_TAG, Tags.legible(tag, illegible));
            bags.put(row, BAG_ILLEGIBLE, illegible);
            bags.put(row, BAG_COLOUR, colour);
            bags.put(row, BAG_KIND, kind);
            bags.put(row, BAG_MARKS, marks);
            bags.put(row, BAG_DAY, day);
            return bags.numberOf(row);
        }

        void join(int claimRow, int bagRow) {
            claims.setPartner(claimRow, bags.numberOf(bagRow));
            bags.setPartner(bagRow, claims.numberOf(claimRow));
        }

        int payForDelivery(int claimRow, int onDay) {
            int days = Math.min(onDay - claims.get(claimRow, CLAIM_FLIGHT), MOST_DAYS_PAID);
            return Math.min(rate * days, claims.get(claimRow, CLAIM_WORTH));
        }

        int payForGivingUp(int claimRow) {
            int tenths = Math.max(10 - claims.get(claimRow, CLAIM_AGE), 2);
            return Math.min(claims.get(claimRow, CLAIM_WORTH) * tenths / 10, cap);
        }

        void copyFrom(Office other) {
            bags.copyFrom(other.bags);
            claims.copyFrom(other.claims);
            System.arraycopy(other.weights, 0, weights, 0, Math.min(weights.length, other.weights.length));
            day = other.day;
            threshold = other.threshold;
            rate = other.rate;
            cap = other.cap;
            deliveries = other.deliveries;
            givenUp = other.givenUp;
            sold = other.sold;
            paid = other.paid;
        }
    }

    /** The saved states, in a ring so that a seventh one takes the place of the oldest. */
    private static final class History {
        private final Office[] ring;
        private int next;
        private int saved;

        History() {
            ring = new Office[MAX_SAVED];
            for (int place = 0; place < ring.length; place++) {
                ring[place] = new Office();
            }
        }

        int saved() {
            return saved;
        }

        void save(Office office) {
            if (next < 0 || next >= ring.length || ring[next] == null) {
                return;
            }
            ring[next].copyFrom(office);
            next = next + 1 == ring.length ? 0 : next + 1;
            saved = Math.min(saved + 1, MAX_SAVED);
        }

        void restore(Office office) {
            int newest = next == 0 ? ring.length - 1 : next - 1;
            if (saved == 0 || newest < 0 || newest >= ring.length || ring[newest] == null) {
                return;
            }
            office.copyFrom(ring[newest]);
            next = newest;
            saved--;
        }
    }

    /** Tags are numbers, but their places are counted from the first digit. */
    private static final class Tags {
        static int common(int claimTag, int bagTag, int illegible) {
            int places = 0;
            int a = claimTag;
            int b = bagTag;
            for (int place = TAG_PLACES - 1; place >= 0; place--) {
                if (a % 10 == b % 10) {
                    places |= 1 << place;
                }
                a /= 10;
                b /= 10;
            }
            return places & ~illegible;
        }

        static int legible(int tag, int illegible) {
            int kept = 0;
            int unit = 1;
            int rest = tag;
            for (int place = TAG_PLACES - 1; place >= 0; place--) {
                if ((illegible >> place & 1) == 0) {
                    kept += rest % 10 * unit;
                }
                rest /= 10;
                unit *= 10;
            }
            return kept;
        }
    }

    /** Compares claims with bags; the parts are kept here so that no comparison makes an object. */
    private static final class Scores {
        private final int[] parts;

        Scores() {
            parts = new int[SCORE_PARTS + 1];
        }

        int part(Office office, int claimRow, int bagRow, int part) {
            if (part < 0 || part >= parts.length || !compare(office, claimRow, bagRow)) {
                return NONE;
            }
            return parts[part];
        }

        int likely(Office office, int claimRow, int bagRow) {
            if (!office.bags.isFree(bagRow) || !compare(office, claimRow, bagRow)
                    || parts[0] < office.threshold) {
                return UNLIKELY;
            }
            return parts[0];
        }

        private boolean compare(Office office, int claimRow, int bagRow) {
            Table claims = office.claims;
            Table bags = office.bags;
            int[] weights = office.weights;
            int late = bags.get(bagRow, BAG_DAY) - claims.get(claimRow, CLAIM_FLIGHT);
            if (late < 0) {
                return false;
            }
            int illegible = bags.get(bagRow, BAG_ILLEGIBLE);
            int same = Tags.common(claims.get(claimRow, CLAIM_TAG), bags.get(bagRow, BAG_TAG), illegible);
            parts[1] = ofDigits(weights[0], same, ALL_PLACES & ~illegible & ~same);
            parts[2] = ofColours(weights[1], claims.get(claimRow, CLAIM_COLOUR), bags.get(bagRow, BAG_COLOUR));
            parts[3] = ofKinds(weights[2], claims.get(claimRow, CLAIM_KIND), bags.get(bagRow, BAG_KIND));
            parts[4] = ofMarks(weights[3], claims.get(claimRow, CLAIM_MARKS), bags.get(bagRow, BAG_MARKS));
            parts[5] = ofAirport(weights[4], claims.get(claimRow, CLAIM_ROUTE), bags.get(bagRow, BAG_AIRPORT));
            parts[6] = -weights[5] * Math.min(late, MOST_DAYS_LATE);
            parts[0] = 0;
            for (int part = 1; part < parts.length; part++) {
                parts[0] += parts[part];
            }
            return true;
        }

        private static int ofDigits(int weight, int same, int unlike) {
            return Integer.bitCount(same) * weight - Integer.bitCount(unlike) * (3 * weight / 2);
        }

        private static int ofColours(int weight, int one, int other) {
            int apart = Math.abs(one - other);
            if (apart == 0) {
                return weight;
            }
            return apart == 1 || apart == 7 ? weight / 3 : 0;
        }

        private static int ofKinds(int weight, int one, int other) {
            if (one == other) {
                return weight;
            }
            return one / 4 == other / 4 ? weight / 3 : 0;
        }

        private static int ofMarks(int weight, int one, int other) {
            return Integer.bitCount(one & other) * weight - Integer.bitCount(one ^ other) * (weight / 2);
        }

        private static int ofAirport(int weight, int route, int airport) {
            return (route >> airport & 1) == 1 ? weight : -weight;
        }
    }

    /** The scores of the free claims with the free bags that are likely for them. */
    private static final class Pairs {
        private final int[] gains;
        int claimRow;
        int bagRow;

        Pairs() {
            gains = new int[MAX_CLAIMS * MAX_BAGS];
        }

        void fill(Office office, Scores scores) {
            for (int claim = 0; claim < MAX_CLAIMS; claim++) {
                boolean free = office.claims.isFree(claim);
                for (int bag = 0; bag < MAX_BAGS; bag++) {
                    gains[claim * MAX_BAGS + bag] = free ? scores.likely(office, claim, bag) : UNLIKELY;
                }
            }
        }

        int gain(int claim, int bag) {
            if (claim < 0 || claim >= MAX_CLAIMS || bag < 0 || bag >= MAX_BAGS) {
                return UNLIKELY;
            }
            return gains[claim * MAX_BAGS + bag];
        }

        boolean hasGain(int claim) {
            for (int bag = 0; bag < MAX_BAGS; bag++) {
                if (gain(claim, bag) != UNLIKELY) {
                    return true;
                }
            }
            return false;
        }

        /** Takes out the claim and the bag of the greatest score, and leaves their rows behind. */
        int takeGreatest() {
            int greatest = UNLIKELY;
            for (int claim = 0; claim < MAX_CLAIMS; claim++) {
                for (int bag = 0; bag < MAX_BAGS; bag++) {
                    if (gain(claim, bag) > greatest) {
                        greatest = gain(claim, bag);
                        claimRow = claim;
                        bagRow = bag;
                    }
                }
            }
            if (greatest != UNLIKELY) {
                strikeOut();
            }
            return greatest;
        }

        private void strikeOut() {
            for (int claim = 0; claim < MAX_CLAIMS; claim++) {
                for (int bag = 0; bag < MAX_BAGS; bag++) {
                    if (claim == claimRow || bag == bagRow) {
                        gains[claim * MAX_BAGS + bag] = UNLIKELY;
                    }
                }
            }
        }
    }

    /**
     * The best sum of pairs by the Hungarian method: trying all sets of bags would take some
     * hundred times as long. Claims and bags count from 1 here; column 0 stands for the claim
     * that is being placed, and a bag whose owner is 0 has none yet. An unlikely pair gains 0,
     * as much as no pair, so it may stand in an assignment without changing the sum.
     */
    private static final class Assignment {
        private static final int FAR = 1000000000;

        private final int[] claimPrice;
        private final int[] bagPrice;
        private final int[] owner;
        private final int[] before;
        private final int[] slack;
        private int reached;

        Assignment() {
            claimPrice = new int[MAX_CLAIMS + 1];
            bagPrice = new int[MAX_BAGS + 1];
            owner = new int[MAX_BAGS + 1];
            before = new int[MAX_BAGS + 1];
            slack = new int[MAX_BAGS + 1];
        }

        int bestSum(Pairs pairs) {
            Arrays.fill(claimPrice, 0);
            Arrays.fill(bagPrice, 0);
            Arrays.fill(owner, 0);
            for (int claim = 1; claim <= MAX_CLAIMS; claim++) {
                if (pairs.hasGain(claim - 1)) {
                    place(pairs, claim);
                }
            }
            int sum = 0;
            for (int bag = 1; bag <= MAX_BAGS; bag++) {
                sum += gain(pairs, owner[bag], bag);
            }
            return sum;
        }

        private static int gain(Pairs pairs, int claim, int bag) {
            return Math.max(pairs.gain(claim - 1, bag - 1), 0);
        }

        private void place(Pairs pairs, int claim) {
            Arrays.fill(slack, FAR);
            owner[0] = claim;
            reached = 0;
            int column = 0;
            // Every round reaches another bag, and there are more bags than claims that own one.
            for (int round = 0; round < MAX_BAGS; round++) {
                reached |= 1 << column;
                relax(pairs, column);
                column = nearest();
                if (column < 1 || column > MAX_BAGS) {
                    return;
                }
                shiftPrices(slack[column]);
                if (owner[column] == 0) {
                    handOn(column);
                    return;
                }
            }
        }

        private void relax(Pairs pairs, int column) {
            int claim = owner[column];
            if (outside(claim, 1, MAX_CLAIMS)) {
                return;
            }
            for (int bag = 1; bag <= MAX_BAGS; bag++) {
                int cost = -gain(pairs, claim, bag) - claimPrice[claim] - bagPrice[bag];
                if (!isReached(bag) && cost < slack[bag]) {
                    slack[bag] = cost;
                    before[bag] = column;
                }
            }
        }

        private int nearest() {
            int nearest = 0;
            for (int bag = 1; bag <= MAX_BAGS; bag++) {
                if (!isReached(bag) && (nearest == 0 || slack[bag] < slack[nearest])) {
                    nearest = bag;
                }
            }
            return nearest;
        }

        private void shiftPrices(int change) {
            for (int column = 0; column <= MAX_BAGS; column++) {
                int claim = owner[column];
                if (!isReached(column)) {
                    slack[column] -= change;
                } else if (!outside(claim, 0, MAX_CLAIMS)) {
                    claimPrice[claim] += change;
                    bagPrice[column] -= change;
                }
            }
        }

        private void handOn(int last) {
            int column = last;
            for (int step = 0; step <= MAX_BAGS && column > 0 && column <= MAX_BAGS; step++) {
                int previous = before[column];
                if (outside(previous, 0, MAX_BAGS)) {
                    return;
                }
                owner[column] = owner[previous];
                column = previous;
            }
        }

        private boolean isReached(int column) {
            return (reached >> column & 1) == 1;
        }
    }

    /** The text, and what the latest check of it has found. */
    private static final class BagText {
        private static final int KIND_PLACE = 10;

        private final int[] codes;
        private int length;
        int errorAt;
        int lastBag;

        BagText() {
            codes = new int[MAX_TEXT];
        }

        int length() {
            return length;
        }

        void clear() {
            length = 0;
        }

        void append(int code) {
            if (length >= 0 && length < codes.length) {
                codes[length] = code;
                length++;
            }
        }

        void check() {
            lastBag = 0;
            int place = 0;
            for (int index = 0; index < length; index++) {
                if (place > KIND_PLACE && codeAt(index) == ';') {
                    lastBag++;
                    place = 0;
                } else if (fits(place, codeAt(index), codeAt(index - 1))) {
                    place++;
                } else {
                    errorAt = index;
                    return;
                }
            }
            errorAt = place > KIND_PLACE ? NONE : length;
        }

        private static boolean fits(int place, int code, int codeBefore) {
            switch (place) {
                case 0:
                case 9:
                    return code >= '0' && code <= '7';
                case 1:
                case 8:
                    return code == ':';
                case KIND_PLACE:
                    return code >= 'a' && code <= 'l';
                default:
                    return place < KIND_PLACE ? isTagSign(code) : isNextMark(code, codeBefore);
            }
        }

        private static boolean isTagSign(int code) {
            return code == '?' || code >= '0' && code <= '9';
        }

        // The first mark follows a kind, and each kind's letter comes before all the marks' letters.
        private static boolean isNextMark(int code, int codeBefore) {
            return code >= 's' && code <= 'z' && code > codeBefore;
        }

        /** Reads the bag that begins at start, of a text without an error; returns the index behind it. */
        int readBag(int start, int[] fields) {
            if (fields.length < BAG_COLUMNS) {
                return start;
            }
            fields[BAG_AIRPORT] = codeAt(start) - '0';
            int tag = 0;
            int illegible = 0;
            for (int place = 0; place < TAG_PLACES; place++) {
                int code = codeAt(start + 2 + place);
                tag = tag * 10 + (code == '?' ? 0 : code - '0');
                illegible |= code == '?' ? 1 << place : 0;
            }
            fields[BAG_TAG] = tag;
            fields[BAG_ILLEGIBLE] = illegible;
            fields[BAG_COLOUR] = codeAt(start + 9) - '0';
            fields[BAG_KIND] = codeAt(start + KIND_PLACE) - 'a';
            fields[BAG_MARKS] = 0;
            int index = start + KIND_PLACE + 1;
            while (index < length && codeAt(index) != ';') {
                fields[BAG_MARKS] |= 1 << codeAt(index) - 's';
                index++;
            }
            return index;
        }

        private int codeAt(int index) {
            return index >= 0 && index < length && index < codes.length ? codes[index] : 0;
        }
    }
}
