import java.util.ArrayList;
import java.util.Arrays;
import java.util.List;
import java.util.regex.Matcher;
import java.util.regex.Pattern;

/** Long runs of calls, each compared with a slow model that tries all ways there are. */
public final class HalfLaddersAgainstModel {
    static final int BAD = -1, STATE = -2, FULL = -3, NONE = -9, NO = -1000000;
    private static int wrong = 0;
    private static long calls = 0;
    private static final StringBuilder story = new StringBuilder();

    /** A sequence of numbers that is the same in each run. */
    private static long seed = 1;

    static int any(int least, int greatest) {
        seed = seed * 6364136223846793005L + 1442695040888963407L;
        return least + (int) Long.remainderUnsigned(seed >>> 20, greatest - least + 1);
    }

    static void same(String call, long got, long want) {
        calls++;
        if (got != want && wrong++ < 20) {
            System.out.println(call + " answered " + got + ", due is " + want + " after " + story);
        }
    }

    public static void main(String[] args) {
        for (int run = 0; run < 6000; run++) {
            oneRun(run);
        }
        System.out.println(wrong == 0 ? calls + " answers are as the model's" : wrong + " answers are not as the model's");
        if (wrong != 0) {
            System.exit(1);
        }
    }

    private static void oneRun(int run) {
        story.setLength(0);
        HalfLadders x = new HalfLadders();
        Model m = new Model();
        for (int part = 0; part < 3; part++) {
            compareText(x, m, run % 3 == 0 ? damaged(text()) : text());
            for (int i = 0; i < 60; i++) {
                compareOne(x, m);
            }
        }
        compareAllPeople(x, m);
    }

    private static String text() {
        StringBuilder s = new StringBuilder();
        int people = any(0, 8);
        int trees = any(0, 5);
        int gaps = any(1, 3) == 1 ? 9 : any(1, 3);
        int worths = any(1, 2) == 1 ? 9 : 2;
        for (int p = 0; p < people; p++) {
            s.append(any(0, 1) == 0 ? "left" : "right").append(blanks(0)).append(any(1, gaps)).append(blanks(1));
            s.append(any(1, worths)).append(blanks(1)).append(any(1, worths)).append(blanks(0)).append(';').append(blanks(0));
            if (p > 0 && any(0, 3) == 0) {
                int a = any(0, p);
                int b = any(0, p);
                if (a != b) {
                    s.append("quarrel ").append(a).append(' ').append(b).append(';');
                }
            }
        }
        for (int t = 0; t < trees; t++) {
            s.append("tree ").append(any(1, worths)).append(' ').append(any(0, any(0, 5) == 0 ? 20 : 3)).append(' ');
            s.append(any(0, any(0, 1) == 0 ? 9 : 99)).append(';');
        }
        return s.toString();
    }

    private static String blanks(int least) {
        return " ".repeat(any(0, 9) == 0 ? least + 1 : least);
    }

    private static String damaged(String whole) {
        StringBuilder s = new StringBuilder(whole);
        String[] bits = {" ", ";", "0", "9", "12", "100", "left", "right", "quarrel", "tree", "e", "T", "-", "\t", "\u00ff", "8 "};
        for (int i = any(0, 2); i > 0; i--) {
            int place = any(0, s.length());
            if (any(0, 1) == 0 && place < s.length()) {
                s.deleteCharAt(place);
            } else {
                s.insert(place, bits[any(0, bits.length - 1)]);
            }
        }
        if (any(0, 9) == 0) {
            s.setLength(any(0, s.length()));
        }
        return s.toString();
    }

    private static void compareText(HalfLadders x, Model m, String text) {
        if (any(0, 9) != 0) {
            same("clear()", x.clear(), m.clear());
        }
        for (int i = 0; i < text.length(); ) {
            int n = Math.min(any(1, 8), text.length() - i);
            long v = any(-9, 9);
            for (int j = 0; j < n; j++) {
                v = v << 8 | text.charAt(i + j);
            }
            same("type(" + v + ", " + n + ")", x.type(v, n), m.type(v, n));
            i += n;
        }
        story.append("\n  \"").append(m.text).append("\": ");
        same("orchard()", x.orchard(), m.orchard());
        same("count(3)", x.count(3), m.count(3));
    }

    private static void compareOne(HalfLadders x, Model m) {
        int a = any(-1, 8), b = any(-1, 8), t = any(-1, 5), what = any(-1, 5), image = any(-1, 2);
        switch (any(0, 20)) {
            case 0: same("half " + a + " " + what, x.half(a, what), m.half(a, what)); break;
            case 1: same("tree " + t + " " + what, x.tree(t, what), m.tree(t, what)); break;
            case 2: same("fit " + a + " " + b, x.fit(a, b), m.fit(a, b)); break;
            case 3: case 4: case 5: case 6: case 7:
                story.append(" climb ").append(a).append(b).append(t);
                same("climb " + a + " " + b + " " + t, x.climb(a, b, t), m.climb(a, b, t)); break;
            case 8: case 9:
                story.append(" ends");
                same("ends", x.ends(), m.ends()); break;
            case 10: same("now " + what, x.now(what), m.now(what)); break;
            case 11:
                if (any(0, 3) == 0) {
                    story.append(" year");
                    same("year", x.year(), m.year());
                }
                break;
            case 12:
                int v = any(0, 1) == 0 ? any(-3, 3) : (int) seed;
                if (any(0, 3) == 0) {
                    story.append(" lot ").append(v);
                    same("lot", x.lot(v), m.lot(v));
                }
                break;
            case 13: case 14: case 15: case 16: same("best " + t, x.best(t), m.best(t)); break;
            case 17: int n = any(0, 9); same("season " + n, x.season(n), m.season(n)); break;
            case 18: int kind = any(-1, 6);
                same("mark " + kind + " " + a, x.mark(kind, a), m.mark(kind, a));
                same("trace", x.trace(), m.trace); break;
            case 19:
                story.append(" keep ").append(image);
                same("keep " + image, x.keep(image), m.keep(image)); break;
            default:
                story.append(" back ").append(image);
                same("back " + image, x.back(image), m.back(image)); break;
        }
    }

    private static void compareAllPeople(HalfLadders x, Model m) {
        for (int p = -1; p <= m.people(); p++) {
            same("asked " + p, x.asked(p), m.asked(p));
            for (int what = -1; what <= 2; what++) {
                same("worth " + p + " " + what, x.worth(p, what), m.worth(p, what));
            }
        }
        same("rests", x.rests(), m.rests());
        for (int k = 0; k <= 5; k++) {
            same("cuts " + k, x.cuts(k), m.cuts(k));
        }
        for (int i = 0; i < 20; i++) {
            int set = any(0, 3) == 0 ? (int) seed : any(0, 255);
            same("whole " + set, x.whole(set), m.whole(set));
            int gap = any(0, 10), height = any(0, 10), what = any(-1, 2);
            same("whose " + gap + " " + height + " " + what, x.whose(gap, height, what), m.whose(gap, height, what));
        }
        for (int what = -1; what <= 4; what++) {
            same("count " + what, x.count(what), m.count(what));
        }
    }

    static final class Half {
        boolean left;
        int gap, length, pace;
    }

    static final class Tree {
        int high, ripe, baskets;
    }

    static final class Pair {
        int left, right;

        Pair(int left, int right) {
            this.left = left;
            this.right = right;
        }

        boolean has(int p) {
            return p == left || p == right;
        }

        int number() {
            return 10 * left + right;
        }
    }

    static final class State implements Cloneable {
        int day, picked, fallen, lot = 1;
        boolean[] climbers = new boolean[8];
        boolean[] climbed = new boolean[5];
        int[] left = new int[5];

        State copy() {
            State s = new State();
            s.day = day;
            s.picked = picked;
            s.fallen = fallen;
            s.lot = lot;
            s.climbers = climbers.clone();
            s.climbed = climbed.clone();
            s.left = left.clone();
            return s;
        }
    }

    static final class Model {
        String text = "";
        List<Half> halves = new ArrayList<>();
        List<Tree> trees = new ArrayList<>();
        boolean[][] quarrels = new boolean[8][8];
        State now = new State();
        State[] images = new State[2];
        long trace = 0;

        int people() {
            return halves.size();
        }

        int type(long v, int n) {
            if (n < 1 || n > 8) {
                return BAD;
            }
            if (text.length() + n > 300) {
                return FULL;
            }
            for (int i = n - 1; i >= 0; i--) {
                text += (char) (v >>> 8 * i & 255);
            }
            return text.length();
        }

        int clear() {
            int had = text.length();
            text = "";
            return had;
        }

        /** Tries what may stand at each place by a table: of each token so far in its item what may come. */
        int orchard() {
            List<Half> newHalves = new ArrayList<>();
            List<Tree> newTrees = new ArrayList<>();
            boolean[][] newQuarrels = new boolean[8][8];
            Matcher tokens = Pattern.compile(" +|[a-z]+|[0-9]+|(?s:.)").matcher(text);
            List<String> item = new ArrayList<>();
            int items = 0;
            while (tokens.find()) {
                String token = tokens.group();
                if (token.startsWith(" ")) {
                    continue;
                }
                if (!mayCome(item, token, newHalves.size(), newTrees.size())) {
                    return -10 - tokens.start();
                }
                item.add(token);
                if (token.equals(";")) {
                    items++;
                    take(item, newHalves, newTrees, newQuarrels);
                    item.clear();
                }
            }
            if (!item.isEmpty()) {
                return -10 - text.length();
            }
            halves = newHalves;
            trees = newTrees;
            quarrels = newQuarrels;
            text = "";
            int lot = now.lot;
            now = new State();
            now.lot = lot;
            for (int t = 0; t < trees.size(); t++) {
                now.left[t] = trees.get(t).baskets;
            }
            images = new State[2];
            return items;
        }

        boolean mayCome(List<String> item, String token, int people, int treeCount) {
            int place = item.size();
            if (place == 0) {
                return (token.equals("left") || token.equals("right")) && people < 8
                    || token.equals("tree") && treeCount < 5 || token.equals("quarrel");
            }
            boolean quarrel = item.get(0).equals("quarrel");
            if (place == (quarrel ? 3 : 4)) {
                return token.equals(";");
            }
            if (!token.matches("0|[1-9][0-9]?")) {
                return false;
            }
            int v = Integer.parseInt(token);
            if (quarrel) {
                return v < people && (place == 1 || v != Integer.parseInt(item.get(1)));
            }
            if (item.get(0).equals("tree")) {
                return place == 1 ? v >= 1 && v <= 9 : place == 2 ? v <= 20 : v <= 99;
            }
            return v >= 1 && v <= 9;
        }

        void take(List<String> item, List<Half> newHalves, List<Tree> newTrees, boolean[][] newQuarrels) {
            int a = Integer.parseInt(item.get(1));
            int b = Integer.parseInt(item.get(2));
            if (item.get(0).equals("quarrel")) {
                newQuarrels[a][b] = true;
                newQuarrels[b][a] = true;
            } else if (item.get(0).equals("tree")) {
                Tree t = new Tree();
                t.high = a;
                t.ripe = b;
                t.baskets = Integer.parseInt(item.get(3));
                newTrees.add(t);
            } else {
                Half h = new Half();
                h.left = item.get(0).equals("left");
                h.gap = a;
                h.length = b;
                h.pace = Integer.parseInt(item.get(3));
                newHalves.add(h);
            }
        }

        boolean isHalf(int p) {
            return p >= 0 && p < halves.size();
        }

        boolean isTree(int t) {
            return t >= 0 && t < trees.size();
        }

        int half(int p, int what) {
            if (!isHalf(p) || what < 0 || what > 4) {
                return BAD;
            }
            Half h = halves.get(p);
            return new int[] {h.left ? 0 : 1, h.gap, h.length, h.pace, now.climbers[p] ? 1 : 0}[what];
        }

        int tree(int t, int what) {
            if (!isTree(t) || what < 0 || what > 4) {
                return BAD;
            }
            Tree tree = trees.get(t);
            return new int[] {tree.high, tree.ripe, tree.baskets, now.left[t], now.climbed[t] ? 1 : 0}[what];
        }

        boolean fits(int a, int b) {
            Half x = halves.get(a), y = halves.get(b);
            return x.left != y.left && x.gap == y.gap && !quarrels[a][b];
        }

        int fit(int a, int b) {
            return !isHalf(a) || !isHalf(b) || a == b ? BAD : fits(a, b) ? 1 : 0;
        }

        int ladder(int a, int b) {
            return Math.min(halves.get(a).length, halves.get(b).length);
        }

        int picks(int a, int b) {
            return halves.get(a).pace + halves.get(b).pace;
        }

        boolean can(State s, int a, int b, int t) {
            Tree tree = trees.get(t);
            return a != b && fits(a, b) && !s.climbers[a] && !s.climbers[b] && !s.climbed[t] && s.day >= tree.ripe
                && s.day <= tree.ripe + 3 && s.left[t] > 0 && ladder(a, b) >= tree.high;
        }

        int doClimb(State s, int a, int b, int t) {
            int baskets = Math.min(picks(a, b), s.left[t]);
            s.climbers[a] = true;
            s.climbers[b] = true;
            s.climbed[t] = true;
            s.left[t] -= baskets;
            s.picked += baskets;
            return baskets;
        }

        int climb(int a, int b, int t) {
            if (!isHalf(a) || !isHalf(b) || a == b || !isTree(t)) {
                return BAD;
            }
            return can(now, a, b, t) ? doClimb(now, a, b, t) : STATE;
        }

        int ends() {
            return now.day == 30 ? STATE : doEnd(now);
        }

        int doEnd(State s) {
            int falls = 0;
            s.day++;
            Arrays.fill(s.climbers, false);
            Arrays.fill(s.climbed, false);
            for (int t = 0; t < trees.size(); t++) {
                if (trees.get(t).ripe + 4 <= s.day) {
                    falls += s.left[t];
                    s.left[t] = 0;
                }
            }
            s.fallen += falls;
            return falls;
        }

        int now(int what) {
            if (what < 0 || what > 4) {
                return BAD;
            }
            int bits = 0;
            for (int p = 0; p < 8; p++) {
                bits += now.climbers[p] ? 1 << p : 0;
            }
            return new int[] {now.day, now.picked, now.fallen, Arrays.stream(now.left).sum(), bits}[what];
        }

        int year() {
            int all = 0;
            int lot = now.lot;
            now = new State();
            for (int t = 0; t < trees.size(); t++) {
                lot = (int) (lot * 1103515245L + 12345L);
                long draw = (lot & 0xffffffffL) / 65536 % 21;
                now.left[t] = (int) (trees.get(t).baskets * draw / 10);
                all += now.left[t];
            }
            now.lot = lot;
            return all;
        }

        int lot(int v) {
            int was = now.lot;
            now.lot = v;
            return was;
        }

        int bestBaskets;
        int[] bestPlan;

        /** All ways, tree by tree, in their order, so that the first of the best is found first. */
        void allWays(State s, int t, int baskets, int[] plan) {
            if (t == trees.size()) {
                if (baskets > bestBaskets) {
                    bestBaskets = baskets;
                    bestPlan = plan.clone();
                }
                return;
            }
            plan[t] = NONE;
            allWays(s, t + 1, baskets, plan);
            for (Pair pair : pairs()) {
                if (can(s, pair.left, pair.right, t)) {
                    State after = s.copy();
                    int more = doClimb(after, pair.left, pair.right, t);
                    plan[t] = pair.number();
                    allWays(after, t + 1, baskets + more, plan);
                }
            }
        }

        void findBest(State s) {
            bestBaskets = -1;
            allWays(s, 0, 0, new int[5]);
        }

        int best(int t) {
            if (t != -1 && !isTree(t)) {
                return BAD;
            }
            findBest(now);
            return t == -1 ? bestBaskets : bestPlan[t];
        }

        int season(int n) {
            if (n < 1 || n > 8) {
                return BAD;
            }
            State s = now.copy();
            int all = 0;
            for (int i = 0; i < n; i++) {
                findBest(s);
                all += bestBaskets;
                for (int t = 0; t < trees.size(); t++) {
                    if (bestPlan[t] != NONE) {
                        doClimb(s, bestPlan[t] / 10, bestPlan[t] % 10, t);
                    }
                }
                if (s.day == 30) {
                    break;
                }
                doEnd(s);
            }
            return all;
        }

        List<Pair> pairs() {
            List<Pair> all = new ArrayList<>();
            for (int number = 0; number < 88; number++) {
                int a = number / 10, b = number % 10;
                if (isHalf(a) && isHalf(b) && halves.get(a).left && fits(a, b)) {
                    all.add(new Pair(a, b));
                }
            }
            return all;
        }

        /** All sets of pairs in which nobody is twice. */
        void joined(List<Pair> from, int next, List<Pair> chosen, List<List<Pair>> all) {
            if (next == from.size()) {
                all.add(new ArrayList<>(chosen));
                return;
            }
            joined(from, next + 1, chosen, all);
            Pair pair = from.get(next);
            for (Pair other : chosen) {
                if (other.has(pair.left) || other.has(pair.right)) {
                    return;
                }
            }
            chosen.add(pair);
            joined(from, next + 1, chosen, all);
            chosen.remove(chosen.size() - 1);
        }

        List<List<Pair>> allJoined() {
            List<List<Pair>> all = new ArrayList<>();
            joined(pairs(), 0, new ArrayList<>(), all);
            return all;
        }

        int whole(int set) {
            int most = 0;
            for (List<Pair> chosen : allJoined()) {
                int sum = 0;
                for (Pair pair : chosen) {
                    boolean there = (set >> pair.left & 1) == 1 && (set >> pair.right & 1) == 1;
                    sum += there ? picks(pair.left, pair.right) : 0;
                }
                most = Math.max(most, sum);
            }
            return most;
        }

        long grown;
        long orders;

        /** All orders, one behind another. */
        void allOrders(int there, int p, int[] wholes) {
            if (there + 1 == 1 << people()) {
                orders++;
                return;
            }
            for (int next = 0; next < people(); next++) {
                if ((there >> next & 1) == 0) {
                    long before = orders;
                    allOrders(there | 1 << next, p, wholes);
                    if (next == p) {
                        grown += (orders - before) * (wholes[there | 1 << next] - wholes[there]);
                    }
                }
            }
        }

        int[] wholesKnown;
        List<Half> wholesKnownFor;

        int worth(int p, int what) {
            if (!isHalf(p) || what < 0 || what > 1) {
                return BAD;
            }
            if (wholesKnownFor != halves) {
                wholesKnown = new int[1 << people()];
                for (int set = 0; set < wholesKnown.length; set++) {
                    wholesKnown[set] = people() > 6 && calls % 8 != 0 ? wholeAgain(set) : whole(set);
                }
                wholesKnownFor = halves;
            }
            grown = 0;
            orders = 0;
            allOrders(0, p, wholesKnown);
            for (long d = Math.max(orders, 1); d > 1; d--) {
                if (grown % d == 0 && orders % d == 0) {
                    grown /= d;
                    orders /= d;
                }
            }
            return (int) (what == 0 ? grown : orders);
        }

        /** The same as whole, quicker: all pairs of the set with what is left of it. */
        int wholeAgain(int set) {
            int most = 0;
            for (Pair pair : pairs()) {
                int two = 1 << pair.left | 1 << pair.right;
                if ((set & two) == two) {
                    most = Math.max(most, picks(pair.left, pair.right) + wholeAgain(set & ~two & ~((1 << pair.left) - 1 & leftsBits())));
                }
            }
            return most;
        }

        int leftsBits() {
            int bits = 0;
            for (int p = 0; p < people(); p++) {
                bits |= halves.get(p).left ? 1 << p : 0;
            }
            return bits;
        }

        int with(List<Pair> chosen, int p) {
            for (Pair pair : chosen) {
                if (pair.has(p)) {
                    return pair.left + pair.right - p;
                }
            }
            return NONE;
        }

        boolean rather(int p, int a, int has) {
            if (has == NONE) {
                return true;
            }
            if (ladder(p, a) != ladder(p, has)) {
                return ladder(p, a) > ladder(p, has);
            }
            if (halves.get(a).pace != halves.get(has).pace) {
                return halves.get(a).pace > halves.get(has).pace;
            }
            return a < has;
        }

        List<List<Pair>> allRests() {
            List<List<Pair>> rests = new ArrayList<>();
            for (List<Pair> chosen : allJoined()) {
                boolean rest = true;
                for (Pair pair : pairs()) {
                    rest &= !(rather(pair.left, pair.right, with(chosen, pair.left))
                        && rather(pair.right, pair.left, with(chosen, pair.right)));
                }
                if (rest) {
                    rests.add(chosen);
                }
            }
            return rests;
        }

        int rests() {
            return allRests().size();
        }

        /** Asking ends in that rest in which each left one has the one that it likes best in any rest. */
        int asked(int p) {
            if (!isHalf(p)) {
                return BAD;
            }
            List<List<Pair>> rests = allRests();
            for (List<Pair> one : rests) {
                boolean best = true;
                for (List<Pair> other : rests) {
                    for (int q = 0; q < people(); q++) {
                        if (halves.get(q).left && with(other, q) != NONE) {
                            best &= !rather(q, with(other, q), with(one, q));
                        }
                    }
                }
                if (best) {
                    return with(one, p);
                }
            }
            return 12345;
        }

        int fewest;

        void cut(int p, int pairsLeft, int busy, int sum) {
            if (pairsLeft == 0) {
                fewest = fewest == NONE ? sum : Math.min(fewest, sum);
                return;
            }
            if (p == people()) {
                return;
            }
            cut(p + 1, pairsLeft, busy, sum);
            for (int b = 0; b < people() && halves.get(p).left; b++) {
                if (!halves.get(b).left && !quarrels[p][b] && (busy >> b & 1) == 0) {
                    cut(p + 1, pairsLeft - 1, busy | 1 << b, sum + Math.abs(halves.get(p).gap - halves.get(b).gap));
                }
            }
        }

        int cuts(int k) {
            if (k < 1 || k > 4) {
                return BAD;
            }
            fewest = NONE;
            cut(0, k, 0, 0);
            return fewest;
        }

        int whose(int gap, int height, int what) {
            if (gap < 1 || gap > 9 || height < 1 || height > 9 || what < 0 || what > 1) {
                return BAD;
            }
            int many = 0;
            int first = NONE;
            for (Pair pair : pairs()) {
                if (halves.get(pair.left).gap == gap && ladder(pair.left, pair.right) >= height) {
                    many++;
                    first = first == NONE ? pair.number() : first;
                }
            }
            return what == 0 ? many : first;
        }

        int mark(int kind, int p) {
            if (kind < 0 || kind > 5 || !isHalf(p)) {
                return NO;
            }
            Half h = halves.get(p);
            int fitting = 0;
            for (Pair pair : pairs()) {
                fitting += pair.has(p) ? 1 : 0;
            }
            trace += new int[] {1, 11, 101, 1011, 10101, 100001}[kind];
            return new int[] {h.length, h.length - h.gap, h.length * 2, h.length - h.gap + h.pace,
                h.length * 2 + fitting, h.length + now.day}[kind];
        }

        int keep(int image) {
            if (image < 0 || image > 1) {
                return BAD;
            }
            images[image] = now.copy();
            return now.day;
        }

        int back(int image) {
            if (image < 0 || image > 1) {
                return BAD;
            }
            if (images[image] == null) {
                return STATE;
            }
            now = images[image].copy();
            return now.day;
        }

        int count(int what) {
            int quarrelCount = 0;
            for (int a = 0; a < 8; a++) {
                for (int b = a + 1; b < 8; b++) {
                    quarrelCount += quarrels[a][b] ? 1 : 0;
                }
            }
            return what < 0 || what > 3 ? BAD : new int[] {people(), trees.size(), quarrelCount, text.length()}[what];
        }
    }
}
