import java.util.Arrays;

/** Half a ladder each: people with halves that fit, trees that are ripe four days, told by a text. */
public final class HalfLadders {
    public static final int BAD = -1, STATE = -2, FULL = -3, NONE = -9;
    /** What none is, where a number may be below 0. */
    public static final int NO = -1000000;

    private static final int MOST_PEOPLE = 8, MOST_TREES = 5, MOST_BYTES = 300, MOST_PAIRS = 16;
    private static final int SETS = 1 << MOST_PEOPLE;
    private static final int LAST_DAY = 30, LAST_RIPE = 20, RIPE_DAYS_MORE = 3;
    private static final int MOST_SEASON = 8, MOST_CUTS = 4, IMAGES = 2;
    private static final int NOBODY = -1;

    /** What a token is; the words of halves are their SIDEs, too. */
    private static final int LEFT = 0, RIGHT = 1, QUARREL = 2, TREE = 3, NUMBER = 4, SEMICOLON = 5, END = 6, WRONG = 7;

    private static final int HALF = 0, WORN = 1, DOUBLE = 2, HINGED = 3, BORROWED = 4, IRON = 5;
    /** Of each kind the one above it, and what its body brings to the trace. */
    private static final int[] KIND_ABOVE = {HALF, HALF, HALF, WORN, DOUBLE, HALF};
    private static final int[] KIND_TRACE = {1, 10, 100, 1000, 10000, 100000};

    private static final int[] FACTORIALS = {1, 1, 2, 6, 24, 120, 720, 5040, 40320};

    private final Text text = new Text();
    private final Reader reader = new Reader(text);
    private Orchard told = new Orchard();
    private Orchard draft = new Orchard();
    private final Pairs pairs = new Pairs();
    private final Sums sums = new Sums();
    private final Cutting cutting = new Cutting();
    private final Liking liking = new Liking();
    private final Plan plan = new Plan();
    private final Now present = new Now();
    private final Now ahead = new Now();
    private final Now[] images = new Now[IMAGES];
    private final boolean[] kept = new boolean[IMAGES];
    private long traced = 0;

    public HalfLadders() {
        for (int image = 0; image < IMAGES; image++) {
            images[image] = new Now();
        }
        present.theLot = 1;
        startAnew();
    }

    // ---- halves and trees

    public int type(long v, int n) {
        if (n < 1 || n > 8) {
            return BAD;
        }
        if (n > text.room()) {
            return FULL;
        }
        for (int i = n - 1; i >= 0; i--) {
            text.add((byte) (v >>> (8 * i)));
        }
        return text.length;
    }

    public int clear() {
        int had = text.length;
        text.length = 0;
        return had;
    }

    public int orchard() {
        int items = reader.readAll(draft);
        if (items < 0) {
            return items;
        }
        Orchard older = told;
        told = draft;
        draft = older;
        text.length = 0;
        startAnew();
        return items;
    }

    public int half(int p, int what) {
        if (!told.hasHalf(p)) {
            return BAD;
        }
        switch (what) {
            case 0: return told.sides[p];
            case 1: return told.gaps[p];
            case 2: return told.lengths[p];
            case 3: return told.paces[p];
            case 4: return present.climbers >> p & 1;
            default: return BAD;
        }
    }

    public int tree(int t, int what) {
        if (!told.hasTree(t)) {
            return BAD;
        }
        switch (what) {
            case 0: return told.highs[t];
            case 1: return told.ripes[t];
            case 2: return told.baskets[t];
            case 3: return present.left[t];
            case 4: return present.climbed >> t & 1;
            default: return BAD;
        }
    }

    public int fit(int a, int b) {
        if (!areTwo(a, b)) {
            return BAD;
        }
        return told.fits(a, b) ? 1 : 0;
    }

    // ---- days

    public int climb(int a, int b, int t) {
        if (!areTwo(a, b) || !told.hasTree(t)) {
            return BAD;
        }
        int pair = pairs.indexOf(1 << a | 1 << b);
        if (pair < 0) {
            return STATE;
        }
        int baskets = present.pickable(told, pairs, pair, t);
        if (baskets == 0) {
            return STATE;
        }
        present.pick(pairs.bits[pair], t, baskets);
        return baskets;
    }

    public int ends() {
        if (present.day >= LAST_DAY) {
            return STATE;
        }
        return present.endDay(told);
    }

    public int now(int what) {
        switch (what) {
            case 0: return present.day;
            case 1: return present.picked;
            case 2: return present.fallen;
            case 3: return present.leftOnAll(told);
            case 4: return present.climbers;
            default: return BAD;
        }
    }

    public int year() {
        present.begin();
        present.blossom(told);
        return present.leftOnAll(told);
    }

    public int lot(int v) {
        int was = present.theLot;
        present.theLot = v;
        return was;
    }

    // ---- the best

    public int best(int t) {
        if (t != -1 && !told.hasTree(t)) {
            return BAD;
        }
        int most = plan.make(told, pairs, present);
        if (t == -1) {
            return most;
        }
        int pair = plan.chosen[t];
        return pair == NOBODY ? NONE : pairs.numberOf(pair);
    }

    public int season(int n) {
        if (n < 1 || n > MOST_SEASON) {
            return BAD;
        }
        ahead.become(present);
        int baskets = 0;
        for (int i = 0; i < n && ahead.day <= LAST_DAY; i++) {
            baskets += plan.make(told, pairs, ahead);
            plan.carryOut(told, pairs, ahead);
            ahead.endDay(told);
        }
        return baskets;
    }

    public int whole(int set) {
        return sums.wholes[set & told.everybody()];
    }

    public int worth(int p, int what) {
        if (!told.hasHalf(p) || what < 0 || what > 1) {
            return BAD;
        }
        int lower = FACTORIALS[told.people];
        int upper = sums.grownOverOrders(p, told.people);
        int divisor = greatestDivisor(upper, lower);
        if (divisor == 0) {
            return BAD;
        }
        return (what == 0 ? upper : lower) / divisor;
    }

    // ---- pairs

    public int asked(int p) {
        return told.hasHalf(p) ? liking.asked[p] : BAD;
    }

    public int rests() {
        return liking.restCount;
    }

    public int cuts(int k) {
        return k < 1 || k > MOST_CUTS ? BAD : cutting.fewest[k];
    }

    public int whose(int gap, int height, int what) {
        if (gap < 1 || gap > 9 || height < 1 || height > 9 || what < 0 || what > 1) {
            return BAD;
        }
        return what == 0 ? pairs.howMany(gap, height) : pairs.firstOf(gap, height);
    }

    // ---- kinds, images

    public int mark(int kind, int p) {
        if (kind < HALF || kind > IRON || !told.hasHalf(p)) {
            return NO;
        }
        return markAs(this, kind, p, 0);
    }

    public int keep(int image) {
        if (!isImage(image)) {
            return BAD;
        }
        images[image].become(present);
        kept[image] = true;
        return present.day;
    }

    public int back(int image) {
        if (!isImage(image)) {
            return BAD;
        }
        if (!kept[image]) {
            return STATE;
        }
        present.become(images[image]);
        return present.day;
    }

    public int count(int what) {
        switch (what) {
            case 0: return told.people;
            case 1: return told.trees;
            case 2: return told.quarrelPairs();
            case 3: return text.length;
            default: return BAD;
        }
    }

    public long trace() {
        return traced;
    }

    /** All that hangs on what was told; the lot and the trace outlive it. */
    private void startAnew() {
        pairs.list(told);
        sums.reckon(told, pairs);
        cutting.reckon(told);
        liking.reckon(told, pairs);
        present.begin();
        present.bearAsTold(told);
        for (int image = 0; image < IMAGES; image++) {
            kept[image] = false;
        }
    }

    private boolean areTwo(int a, int b) {
        return told.hasHalf(a) && told.hasHalf(b) && a != b;
    }

    private static boolean isImage(int image) {
        return image >= 0 && image < IMAGES;
    }

    private static int greatestDivisor(int a, int b) {
        int greater = a;
        int lesser = b;
        for (int i = 0; i < 100 && lesser != 0; i++) {
            int over = greater % lesser;
            greater = lesser;
            lesser = over;
        }
        return greater;
    }

    private static int markAs(HalfLadders all, int kind, int p, int depth) {
        if (depth > IRON || kind < HALF || kind > IRON || !all.told.hasHalf(p)) {
            return 0;
        }
        all.traced += KIND_TRACE[kind];
        if (kind == HALF) {
            return all.told.lengths[p];
        }
        int up = markAs(all, KIND_ABOVE[kind], p, depth + 1);
        switch (kind) {
            case WORN: return up - all.told.gaps[p];
            case DOUBLE: return up * 2;
            case HINGED: return up + all.told.paces[p];
            case BORROWED: return up + all.pairs.howManyWith(p);
            default: return up + all.present.day;
        }
    }

    /** Of all sets of the pairs from this one on that go with those joined already: how many are a rest. */
    private static int restsFrom(Liking liking, Pairs pairs, int pair) {
        if (pair >= pairs.count) {
            return liking.isRest(pairs) ? 1 : 0;
        }
        int rests = restsFrom(liking, pairs, pair + 1);
        int a = pairs.lefts[pair];
        int b = pairs.rights[pair];
        if (liking.with[a] == NOBODY && liking.with[b] == NOBODY) {
            liking.with[a] = b;
            liking.with[b] = a;
            rests += restsFrom(liking, pairs, pair + 1);
            liking.with[a] = NOBODY;
            liking.with[b] = NOBODY;
        }
        return rests;
    }

    /** The bytes typed since the text was empty, and the tokens that they make. */
    private static final class Text {
        final byte[] bytes = new byte[MOST_BYTES];
        int length = 0;
        /** Of each token what it is, the place of its first byte and, of a number, its value; END is the last. */
        final int[] tokens = new int[MOST_BYTES + 1];
        final int[] places = new int[MOST_BYTES + 1];
        final int[] values = new int[MOST_BYTES + 1];

        int room() {
            return MOST_BYTES - length;
        }

        void add(byte b) {
            if (length < MOST_BYTES) {
                bytes[length] = b;
                length++;
            }
        }

        /** What stands at a place; -1 behind the end. */
        int at(int place) {
            return place >= 0 && place < length ? bytes[place] & 255 : -1;
        }

        void cutIntoTokens() {
            int made = 0;
            int place = 0;
            while (place < length && made < MOST_BYTES) {
                if (at(place) == ' ') {
                    place++;
                } else {
                    int behind = endOfToken(place);
                    places[made] = place;
                    tokens[made] = tokenOf(place, behind);
                    values[made] = tokens[made] == NUMBER ? numberAt(place, behind) : 0;
                    made++;
                    place = Math.max(behind, place + 1);
                }
            }
            tokens[made] = END;
            places[made] = length;
        }

        int endOfToken(int place) {
            int behind = place + 1;
            if (isLetter(at(place))) {
                while (behind < length && isLetter(at(behind))) {
                    behind++;
                }
            } else if (isDigit(at(place))) {
                while (behind < length && isDigit(at(behind))) {
                    behind++;
                }
            }
            return behind;
        }

        int tokenOf(int place, int behind) {
            int first = at(place);
            if (isDigit(first)) {
                boolean isNumber = behind - place == 1 || behind - place == 2 && first != '0';
                return isNumber ? NUMBER : WRONG;
            }
            if (first == ';') {
                return SEMICOLON;
            }
            if (spells("left", place, behind)) {
                return LEFT;
            }
            if (spells("right", place, behind)) {
                return RIGHT;
            }
            if (spells("quarrel", place, behind)) {
                return QUARREL;
            }
            return spells("tree", place, behind) ? TREE : WRONG;
        }

        boolean spells(String word, int place, int behind) {
            if (behind - place != word.length()) {
                return false;
            }
            for (int i = 0; i < word.length(); i++) {
                if (at(place + i) != word.charAt(i)) {
                    return false;
                }
            }
            return true;
        }

        int numberAt(int place, int behind) {
            int number = 0;
            for (int i = place; i < behind; i++) {
                number = number * 10 + at(i) - '0';
            }
            return number;
        }

        static boolean isLetter(int b) {
            return b >= 'a' && b <= 'z';
        }

        static boolean isDigit(int b) {
            return b >= '0' && b <= '9';
        }
    }

    /** Reads the tokens of a text, one behind another, into an orchard. */
    private static final class Reader {
        final Text text;
        /** Which token is looked at, what it is, and its value. */
        int looked = 0;
        int token = END;
        int value = 0;

        Reader(Text text) {
            this.text = text;
        }

        /** How many items; -10 less the fault. */
        int readAll(Orchard orchard) {
            text.cutIntoTokens();
            orchard.empty();
            looked = 0;
            for (int items = 0; items <= MOST_BYTES; items++) {
                look();
                if (token == END) {
                    return items;
                }
                if (!readItem(orchard)) {
                    break;
                }
                looked++;
            }
            look();
            return -10 - text.places[looked];
        }

        void look() {
            looked = Math.min(looked, MOST_BYTES);
            token = text.tokens[looked];
            value = text.values[looked];
        }

        void advance() {
            looked++;
            look();
        }

        boolean readItem(Orchard orchard) {
            switch (token) {
                case LEFT: return readHalf(orchard, LEFT);
                case RIGHT: return readHalf(orchard, RIGHT);
                case QUARREL: return readQuarrel(orchard);
                case TREE: return readTree(orchard);
                default: return false;
            }
        }

        boolean readHalf(Orchard orchard, int side) {
            if (orchard.people >= MOST_PEOPLE || !readNumber(1, 9)) {
                return false;
            }
            int gap = value;
            if (!readNumber(1, 9)) {
                return false;
            }
            int length = value;
            if (!readNumber(1, 9)) {
                return false;
            }
            int pace = value;
            if (!readSemicolon()) {
                return false;
            }
            orchard.addHalf(side, gap, length, pace);
            return true;
        }

        boolean readQuarrel(Orchard orchard) {
            if (!readNumber(0, orchard.people - 1)) {
                return false;
            }
            int a = value;
            if (!readNumber(0, orchard.people - 1) || value == a) {
                return false;
            }
            int b = value;
            if (!readSemicolon()) {
                return false;
            }
            orchard.addQuarrel(a, b);
            return true;
        }

        boolean readTree(Orchard orchard) {
            if (orchard.trees >= MOST_TREES || !readNumber(1, 9)) {
                return false;
            }
            int high = value;
            if (!readNumber(0, LAST_RIPE)) {
                return false;
            }
            int ripe = value;
            if (!readNumber(0, 99)) {
                return false;
            }
            int baskets = value;
            if (!readSemicolon()) {
                return false;
            }
            orchard.addTree(high, ripe, baskets);
            return true;
        }

        boolean readNumber(int least, int greatest) {
            advance();
            return token == NUMBER && value >= least && value <= greatest;
        }

        boolean readSemicolon() {
            advance();
            return token == SEMICOLON;
        }
    }

    /** People and trees as a text tells them. */
    private static final class Orchard {
        int people = 0;
        int trees = 0;
        final int[] sides = new int[MOST_PEOPLE];
        final int[] gaps = new int[MOST_PEOPLE];
        final int[] lengths = new int[MOST_PEOPLE];
        final int[] paces = new int[MOST_PEOPLE];
        /** Of each one the bits of those that it quarrels with. */
        final int[] quarrels = new int[MOST_PEOPLE];
        final int[] highs = new int[MOST_TREES];
        final int[] ripes = new int[MOST_TREES];
        final int[] baskets = new int[MOST_TREES];

        void empty() {
            people = 0;
            trees = 0;
        }

        void addHalf(int side, int gap, int length, int pace) {
            if (people < MOST_PEOPLE) {
                sides[people] = side;
                gaps[people] = gap;
                lengths[people] = length;
                paces[people] = pace;
                quarrels[people] = 0;
                people++;
            }
        }

        void addQuarrel(int a, int b) {
            if (hasHalf(a) && hasHalf(b)) {
                quarrels[a] |= 1 << b;
                quarrels[b] |= 1 << a;
            }
        }

        void addTree(int high, int ripe, int borne) {
            if (trees < MOST_TREES) {
                highs[trees] = high;
                ripes[trees] = ripe;
                baskets[trees] = borne;
                trees++;
            }
        }

        boolean hasHalf(int p) {
            return p >= 0 && p < people;
        }

        boolean hasTree(int t) {
            return t >= 0 && t < trees;
        }

        int everybody() {
            return (1 << people) - 1;
        }

        /** Whether two, were their gaps alike, would fit. */
        boolean couldFit(int a, int b) {
            return hasHalf(a) && hasHalf(b) && sides[a] != sides[b] && (quarrels[a] >> b & 1) == 0;
        }

        boolean fits(int a, int b) {
            return couldFit(a, b) && gaps[a] == gaps[b];
        }

        int quarrelPairs() {
            int twice = 0;
            for (int p = 0; p < people; p++) {
                twice += Integer.bitCount(quarrels[p]);
            }
            return twice / 2;
        }

        boolean isRipe(int t, int day) {
            return hasTree(t) && day >= ripes[t] && day <= ripes[t] + RIPE_DAYS_MORE;
        }
    }

    /** All pairs that fit, in the order of 10 times the left one and the right one. */
    private static final class Pairs {
        int count = 0;
        int allLefts = 0;
        final int[] lefts = new int[MOST_PAIRS];
        final int[] rights = new int[MOST_PAIRS];
        final int[] bits = new int[MOST_PAIRS];
        final int[] gaps = new int[MOST_PAIRS];
        final int[] ladders = new int[MOST_PAIRS];
        final int[] picks = new int[MOST_PAIRS];

        void list(Orchard orchard) {
            count = 0;
            allLefts = 0;
            for (int a = 0; a < orchard.people; a++) {
                if (orchard.sides[a] == LEFT) {
                    allLefts |= 1 << a;
                    listOf(orchard, a);
                }
            }
        }

        void listOf(Orchard orchard, int a) {
            for (int b = 0; b < orchard.people; b++) {
                if (orchard.fits(a, b) && count < MOST_PAIRS) {
                    lefts[count] = a;
                    rights[count] = b;
                    bits[count] = 1 << a | 1 << b;
                    gaps[count] = orchard.gaps[a];
                    ladders[count] = Math.min(orchard.lengths[a], orchard.lengths[b]);
                    picks[count] = orchard.paces[a] + orchard.paces[b];
                    count++;
                }
            }
        }

        int indexOf(int two) {
            for (int pair = 0; pair < count; pair++) {
                if (bits[pair] == two) {
                    return pair;
                }
            }
            return NOBODY;
        }

        int numberOf(int pair) {
            return pair >= 0 && pair < count ? 10 * lefts[pair] + rights[pair] : NONE;
        }

        int howManyWith(int p) {
            int many = 0;
            for (int pair = 0; pair < count; pair++) {
                many += bits[pair] >> p & 1;
            }
            return many;
        }

        boolean leavesMarks(int pair, int gap, int height) {
            return gaps[pair] == gap && ladders[pair] >= height;
        }

        int howMany(int gap, int height) {
            int many = 0;
            for (int pair = 0; pair < count; pair++) {
                if (leavesMarks(pair, gap, height)) {
                    many++;
                }
            }
            return many;
        }

        int firstOf(int gap, int height) {
            for (int pair = 0; pair < count; pair++) {
                if (leavesMarks(pair, gap, height)) {
                    return numberOf(pair);
                }
            }
            return NONE;
        }
    }

    /** What the days change, and what images keep. */
    private static final class Now {
        int day = 0;
        /** Bits of who did climb, and of which trees were climbed, on this day. */
        int climbers = 0;
        int climbed = 0;
        int picked = 0;
        int fallen = 0;
        int theLot = 0;
        final int[] left = new int[MOST_TREES];

        void begin() {
            day = 0;
            climbers = 0;
            climbed = 0;
            picked = 0;
            fallen = 0;
        }

        void bearAsTold(Orchard orchard) {
            for (int t = 0; t < orchard.trees; t++) {
                left[t] = orchard.baskets[t];
            }
        }

        void blossom(Orchard orchard) {
            for (int t = 0; t < orchard.trees; t++) {
                theLot = theLot * 1103515245 + 12345;
                int draw = (theLot >>> 16) % 21;
                left[t] = orchard.baskets[t] * draw / 10;
            }
        }

        void become(Now other) {
            day = other.day;
            climbers = other.climbers;
            climbed = other.climbed;
            picked = other.picked;
            fallen = other.fallen;
            theLot = other.theLot;
            for (int t = 0; t < MOST_TREES; t++) {
                left[t] = other.left[t];
            }
        }

        int leftOnAll(Orchard orchard) {
            int all = 0;
            for (int t = 0; t < orchard.trees; t++) {
                all += left[t];
            }
            return all;
        }

        /** What a pair would pick from a tree; 0, if it can't climb that. */
        int pickable(Orchard orchard, Pairs pairs, int pair, int t) {
            if (!orchard.isRipe(t, day) || (climbed >> t & 1) != 0) {
                return 0;
            }
            if ((climbers & pairs.bits[pair]) != 0 || pairs.ladders[pair] < orchard.highs[t]) {
                return 0;
            }
            return Math.min(pairs.picks[pair], left[t]);
        }

        void pick(int two, int t, int baskets) {
            climbers |= two;
            climbed |= 1 << t;
            left[t] -= baskets;
            picked += baskets;
        }

        /** What falls. */
        int endDay(Orchard orchard) {
            day++;
            climbers = 0;
            climbed = 0;
            int falls = 0;
            for (int t = 0; t < orchard.trees; t++) {
                if (day > orchard.ripes[t] + RIPE_DAYS_MORE) {
                    falls += left[t];
                    left[t] = 0;
                }
            }
            fallen += falls;
            return falls;
        }
    }

    /** The most that the rest of a day can bring, and the first way to it. */
    private static final class Plan {
        /** Of each tree the pair that climbs it, by its index, or NOBODY. */
        final int[] chosen = new int[MOST_TREES];
        final int[][] gains = new int[MOST_TREES][MOST_PAIRS];
        /** The most that a tree and those behind it bring, when a set of people is taken already. */
        final int[][] most = new int[MOST_TREES + 1][SETS];

        int make(Orchard orchard, Pairs pairs, Now now) {
            Arrays.fill(most[orchard.trees], 0);
            for (int t = orchard.trees - 1; t >= 0; t--) {
                for (int pair = 0; pair < pairs.count; pair++) {
                    gains[t][pair] = now.pickable(orchard, pairs, pair, t);
                }
                for (int taken = 0; taken <= orchard.everybody(); taken++) {
                    if (canBeTaken(pairs, taken, t)) {
                        most[t][taken] = mostFrom(pairs, taken, t);
                    }
                }
            }
            choose(orchard, pairs);
            return most[0][0];
        }

        /** Whether so many lefts as rights are taken, and no more pairs than there are trees ahead. */
        static boolean canBeTaken(Pairs pairs, int taken, int treesAhead) {
            int all = Integer.bitCount(taken);
            return all <= 2 * treesAhead && all == 2 * Integer.bitCount(taken & pairs.allLefts);
        }

        int mostFrom(Pairs pairs, int taken, int t) {
            int found = most[t + 1][taken];
            for (int pair = 0; pair < pairs.count; pair++) {
                if (canClimb(pairs, pair, taken, t)) {
                    found = Math.max(found, with(pairs, pair, taken, t));
                }
            }
            return found;
        }

        boolean canClimb(Pairs pairs, int pair, int taken, int t) {
            return gains[t][pair] > 0 && (taken & pairs.bits[pair]) == 0;
        }

        int with(Pairs pairs, int pair, int taken, int t) {
            return gains[t][pair] + most[t + 1][taken | pairs.bits[pair]];
        }

        void choose(Orchard orchard, Pairs pairs) {
            int taken = 0;
            for (int t = 0; t < orchard.trees; t++) {
                chosen[t] = firstOfBest(pairs, taken, t);
                if (chosen[t] != NOBODY) {
                    taken |= pairs.bits[chosen[t]];
                }
            }
        }

        int firstOfBest(Pairs pairs, int taken, int t) {
            if (most[t + 1][taken] == most[t][taken]) {
                return NOBODY;
            }
            for (int pair = 0; pair < pairs.count; pair++) {
                if (canClimb(pairs, pair, taken, t) && with(pairs, pair, taken, t) == most[t][taken]) {
                    return pair;
                }
            }
            return NOBODY;
        }

        void carryOut(Orchard orchard, Pairs pairs, Now now) {
            for (int t = 0; t < orchard.trees; t++) {
                int pair = chosen[t];
                if (pair != NOBODY) {
                    now.pick(pairs.bits[pair], t, gains[t][pair]);
                }
            }
        }
    }

    /** Of each set of people the whole of it, and by how much one lets it grow. */
    private static final class Sums {
        final int[] wholes = new int[SETS];

        void reckon(Orchard orchard, Pairs pairs) {
            wholes[0] = 0;
            for (int set = 1; set <= orchard.everybody(); set++) {
                wholes[set] = wholeOf(pairs, set);
            }
        }

        /** The least one of the set is in no pair, or in one of those that it fits in. */
        int wholeOf(Pairs pairs, int set) {
            int least = set & -set;
            int found = wholes[set & ~least];
            for (int pair = 0; pair < pairs.count; pair++) {
                int two = pairs.bits[pair];
                if ((two & least) != 0 && (two & set) == two) {
                    found = Math.max(found, pairs.picks[pair] + wholes[set & ~two]);
                }
            }
            return found;
        }

        /** By how much the whole grows as one comes, added over all orders. */
        int grownOverOrders(int p, int people) {
            int grown = 0;
            int one = 1 << p;
            for (int ahead = 0; ahead < 1 << people; ahead++) {
                if ((ahead & one) == 0) {
                    int many = Integer.bitCount(ahead);
                    int orders = FACTORIALS[many] * FACTORIALS[people - 1 - many];
                    grown += orders * (wholes[ahead | one] - wholes[ahead]);
                }
            }
            return grown;
        }
    }

    /** The fewest cuts by which so many pairs have gaps alike. */
    private static final class Cutting {
        final int[] fewest = new int[MOST_CUTS + 1];
        /** Of each set of people the fewest cuts by which all of it is in pairs, or NONE. */
        final int[] forSet = new int[SETS];

        void reckon(Orchard orchard) {
            Arrays.fill(fewest, NONE);
            forSet[0] = 0;
            for (int set = 1; set <= orchard.everybody(); set++) {
                forSet[set] = fewestOf(orchard, set);
                int many = Integer.bitCount(set);
                if (many % 2 == 0 && many / 2 <= MOST_CUTS) {
                    fewest[many / 2] = fewer(fewest[many / 2], forSet[set]);
                }
            }
        }

        int fewestOf(Orchard orchard, int set) {
            int found = NONE;
            int a = Integer.numberOfTrailingZeros(set);
            for (int b = a + 1; b < orchard.people; b++) {
                int others = set & ~(1 << a | 1 << b);
                if ((set >> b & 1) != 0 && orchard.couldFit(a, b) && forSet[others] != NONE) {
                    found = fewer(found, forSet[others] + Math.abs(orchard.gaps[a] - orchard.gaps[b]));
                }
            }
            return found;
        }

        static int fewer(int a, int b) {
            if (a == NONE) {
                return b;
            }
            return b == NONE ? a : Math.min(a, b);
        }
    }

    /** Who likes whom, whom asking brings, and how many rests there are. */
    private static final class Liking {
        /** How much one likes another one; 0, if they do not fit. */
        final int[][] likes = new int[MOST_PEOPLE][MOST_PEOPLE];
        /** With whom one is after the asking, or NONE. */
        final int[] asked = new int[MOST_PEOPLE];
        /** With whom one is while pairs are sought, or NOBODY. */
        final int[] with = new int[MOST_PEOPLE];
        /** Of each one the bits of those that it asked. */
        final int[] tried = new int[MOST_PEOPLE];
        int restCount = 1;

        void reckon(Orchard orchard, Pairs pairs) {
            for (int p = 0; p < MOST_PEOPLE; p++) {
                Arrays.fill(likes[p], 0);
            }
            for (int pair = 0; pair < pairs.count; pair++) {
                int a = pairs.lefts[pair];
                int b = pairs.rights[pair];
                likes[a][b] = 100 * pairs.ladders[pair] + 10 * orchard.paces[b] + MOST_PEOPLE - b;
                likes[b][a] = 100 * pairs.ladders[pair] + 10 * orchard.paces[a] + MOST_PEOPLE - a;
            }
            Arrays.fill(with, NOBODY);
            askAll(pairs);
            for (int p = 0; p < MOST_PEOPLE; p++) {
                asked[p] = with[p] == NOBODY ? NONE : with[p];
            }
            Arrays.fill(with, NOBODY);
            restCount = restsFrom(this, pairs, 0);
        }

        /** In each round each left one that is with nobody asks once more; a pair is asked for once at most. */
        void askAll(Pairs pairs) {
            Arrays.fill(tried, 0);
            for (int round = 0; round <= pairs.count; round++) {
                for (int a = 0; a < MOST_PEOPLE; a++) {
                    if ((pairs.allLefts >> a & 1) != 0 && with[a] == NOBODY) {
                        askNext(a);
                    }
                }
            }
        }

        void askNext(int a) {
            int dearest = NOBODY;
            for (int b = 0; b < MOST_PEOPLE; b++) {
                if ((tried[a] >> b & 1) == 0 && likes[a][b] > 0
                        && (dearest == NOBODY || likes[a][b] > likes[a][dearest])) {
                    dearest = b;
                }
            }
            if (dearest == NOBODY) {
                return;
            }
            tried[a] |= 1 << dearest;
            if (ratherHas(dearest, a)) {
                int leaves = with[dearest];
                if (leaves != NOBODY) {
                    with[leaves] = NOBODY;
                }
                with[dearest] = a;
                with[a] = dearest;
            }
        }

        /** Whether one would rather have another than whom, or nobody, it has. */
        boolean ratherHas(int one, int another) {
            int has = with[one];
            return likes[one][another] > (has == NOBODY ? 0 : likes[one][has]);
        }

        boolean isRest(Pairs pairs) {
            for (int pair = 0; pair < pairs.count; pair++) {
                int a = pairs.lefts[pair];
                int b = pairs.rights[pair];
                if (ratherHas(a, b) && ratherHas(b, a)) {
                    return false;
                }
            }
            return true;
        }
    }
}
