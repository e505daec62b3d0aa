import java.util.ArrayList;
import java.util.List;
import java.util.function.Consumer;
import java.util.function.ToLongFunction;

/**
 * Each sentence of the document that names a boundary has a test of its own here: at the boundary, one below it and one
 * above it; and where a call is refused, what later calls answer. HalfLaddersSentences looks whether the document says so.
 */
public final class HalfLaddersBoundaries {
    private static final int BAD = -1, STATE = -2, FULL = -3, NONE = -9, NO = -1000000;
    /** Numbers that shifts and wrapping might bring back among those that are told. */
    private static final int[] FAR = {Integer.MIN_VALUE, -65536, -256, -32, 32, 256, 65536, Integer.MAX_VALUE};
    private static final String[] WORDS = {"left", "right", "quarrel", "tree"};
    private static final String PEOPLE = "left 7 7 7;right 7 6 5;left 7 1 1;right 7 9 2;quarrel 2 3;";
    private static final String TREES = "tree 6 0 70;tree 1 0 9;tree 9 9 9;";
    private static final String FOUR_LEFT = "left 5 5 5;left 5 5 5;left 5 5 5;left 5 5 5;";
    private static final String FOUR_RIGHT = "right 5 5 5;right 5 5 5;right 5 5 5;right 5 5 5;";
    private static final String FIVE_TREES = "tree 1 0 9;tree 1 0 9;tree 1 0 9;tree 1 0 9;tree 1 0 9;";
    private static final String TWO = "left 1 1 1;right 1 1 1;";

    private static int wrong = 0;
    private static int sentences = 0;
    private static String sentence = "";

    private record Later(String name, ToLongFunction<HalfLadders> call) { }

    private interface WithNumber {
        long answer(HalfLadders x, int number);
    }

    private static final List<Later> LATER = laterCalls();

    public static void main(String[] args) {
        newObjects();
        texts();
        numbersOfItems();
        tokens();
        faults();
        quarrels();
        readAnew();
        halvesAndTrees();
        fits();
        climbs();
        days();
        years();
        bests();
        seasons();
        sums();
        pairs();
        cuttings();
        barks();
        kinds();
        images();
        refusals();
        System.out.println(wrong == 0 ? sentences + " sentences hold" : wrong + " answers are not as due");
        if (wrong != 0) {
            System.exit(1);
        }
    }

    // ---- how it is looked

    private static void sentence(String words) {
        sentence = words;
        sentences++;
    }

    private static void due(String call, long got, long want) {
        if (got != want) {
            wrong++;
            System.out.println(sentence + "\n    " + call + " answered " + got + ", due is " + want);
        }
    }

    /** Eight bytes a call, so that few of the 512 calls go to the text. */
    private static void typed(HalfLadders x, String text) {
        for (int i = 0; i < text.length(); i += 8) {
            String part = text.substring(i, Math.min(i + 8, text.length()));
            long v = 0;
            for (int j = 0; j < part.length(); j++) {
                v = v << 8 | part.charAt(j);
            }
            x.type(v, part.length());
        }
    }

    private static HalfLadders told(String text) {
        return told(text, 0);
    }

    private static HalfLadders told(String text, int days) {
        HalfLadders x = new HalfLadders();
        toldInto(x, text, days);
        return x;
    }

    private static void toldInto(HalfLadders x, String text, int days) {
        typed(x, text);
        x.orchard();
        pass(x, days);
    }

    private static void pass(HalfLadders x, int days) {
        for (int i = 0; i < days; i++) {
            x.ends();
        }
    }

    /** A day on which much has happened, so that what a refused call changes is seen; a half is typed but for its end. */
    private static void busy(HalfLadders x) {
        busyDay(x);
        typed(x, "left 1 2 3");
    }

    private static void busyDay(HalfLadders x) {
        typed(x, PEOPLE + TREES);
        x.orchard();
        x.lot(77);
        x.mark(1, 0);
        x.ends();
        x.keep(0);
        x.climb(0, 1, 0);
    }

    private static HalfLadders busy() {
        HalfLadders x = new HalfLadders();
        busy(x);
        return x;
    }

    /** The call is refused, and each later call answers as with a twin that was not asked. */
    private static void refused(String name, Consumer<HalfLadders> before, ToLongFunction<HalfLadders> call, long want) {
        HalfLadders asked = new HalfLadders();
        HalfLadders twin = new HalfLadders();
        before.accept(asked);
        before.accept(twin);
        due(name, call.applyAsLong(asked), want);
        for (Later later : LATER) {
            due(later.name + " after " + name, later.call.applyAsLong(asked), later.call.applyAsLong(twin));
        }
    }

    /** On a busy day a number is refused one below and one above what it may be, and far off; at both ends it is not. */
    private static void edges(String name, int least, int greatest, WithNumber call, int refusal) {
        for (int number : new int[] {least - 1, greatest + 1}) {
            refused(name + " of " + number, HalfLaddersBoundaries::busy, x -> call.answer(x, number), refusal);
        }
        for (int number : FAR) {
            refused(name + " of " + number, HalfLaddersBoundaries::busy, x -> call.answer(x, number), refusal);
        }
        for (int number : new int[] {least, greatest}) {
            due(name + " of " + number + " is refused", call.answer(busy(), number) == refusal ? 1 : 0, 0);
        }
    }

    private static int answered(String text) {
        HalfLadders x = new HalfLadders();
        typed(x, text);
        return x.orchard();
    }

    private static void reads(String text, int items) {
        due("orchard() of \"" + text + "\"", answered(text), items);
    }

    private static void fault(String text, int place) {
        refused("orchard() of \"" + text + "\"", x -> {
            busyDay(x);
            typed(x, text);
        }, HalfLadders::orchard, -10 - place);
    }

    private static List<Later> laterCalls() {
        List<Later> all = new ArrayList<>();
        lookAtCounts(all);
        lookAtPeople(all);
        lookAtWays(all);
        goOnWithDays(all);
        goOnWithImages(all);
        all.add(new Later("type(;)", x -> x.type(';', 1)));
        all.add(new Later("orchard()", HalfLadders::orchard));
        lookAtCounts(all);
        for (int what = 0; what <= 3; what++) {
            int w = what;
            all.add(new Later("half(0, " + w + ")", x -> x.half(0, w)));
        }
        all.add(new Later("clear()", HalfLadders::clear));
        return all;
    }

    private static void lookAtCounts(List<Later> all) {
        for (int what = 0; what <= 3; what++) {
            int w = what;
            all.add(new Later("count(" + w + ")", x -> x.count(w)));
        }
        all.add(new Later("trace()", HalfLadders::trace));
    }

    private static void lookAtNow(List<Later> all) {
        for (int what = 0; what <= 4; what++) {
            int w = what;
            all.add(new Later("now(" + w + ")", x -> x.now(w)));
        }
        for (int tree = 0; tree <= 4; tree++) {
            int t = tree;
            all.add(new Later("tree(" + t + ", 3)", x -> x.tree(t, 3)));
            all.add(new Later("tree(" + t + ", 4)", x -> x.tree(t, 4)));
        }
    }

    private static void lookAtPeople(List<Later> all) {
        for (int half = 0; half <= 7; half++) {
            int p = half;
            for (int what = 0; what <= 4; what++) {
                int w = what;
                all.add(new Later("half(" + p + ", " + w + ")", x -> x.half(p, w)));
            }
            all.add(new Later("asked(" + p + ")", x -> x.asked(p)));
            all.add(new Later("worth(" + p + ", 0)", x -> x.worth(p, 0)));
            all.add(new Later("fit(" + p + ", 0)", x -> x.fit(p, 0)));
            all.add(new Later("fit(" + p + ", 3)", x -> x.fit(p, 3)));
        }
        all.add(new Later("whole(-1)", x -> x.whole(-1)));
        all.add(new Later("rests()", HalfLadders::rests));
        all.add(new Later("cuts(2)", x -> x.cuts(2)));
        all.add(new Later("whose(7, 1, 0)", x -> x.whose(7, 1, 0)));
    }

    private static void lookAtWays(List<Later> all) {
        lookAtNow(all);
        for (int tree = 0; tree <= 4; tree++) {
            int t = tree;
            for (int what = 0; what <= 2; what++) {
                int w = what;
                all.add(new Later("tree(" + t + ", " + w + ")", x -> x.tree(t, w)));
            }
            all.add(new Later("best(" + t + ")", x -> x.best(t)));
        }
        all.add(new Later("best(-1)", x -> x.best(-1)));
        all.add(new Later("season(8)", x -> x.season(8)));
    }

    private static void goOnWithDays(List<Later> all) {
        for (int tree = 0; tree <= 4; tree++) {
            int t = tree;
            all.add(new Later("climb(0, 1, " + t + ")", x -> x.climb(0, 1, t)));
            all.add(new Later("climb(2, 1, " + t + ")", x -> x.climb(2, 1, t)));
            all.add(new Later("climb(0, 3, " + t + ")", x -> x.climb(0, 3, t)));
        }
        all.add(new Later("ends()", HalfLadders::ends));
        lookAtNow(all);
        all.add(new Later("mark(5, 0)", x -> x.mark(5, 0)));
    }

    private static void goOnWithImages(List<Later> all) {
        all.add(new Later("back(1)", x -> x.back(1)));
        lookAtNow(all);
        all.add(new Later("back(0)", x -> x.back(0)));
        lookAtNow(all);
        all.add(new Later("year()", HalfLadders::year));
        lookAtNow(all);
        all.add(new Later("lot(5)", x -> x.lot(5)));
    }

    // ---- new objects

    private static void newObjects() {
        nobodyAtFirst();
        fiveHundredAndTwelveCalls();
        dearestCalls();
        constants();
    }

    private static void nobodyAtFirst() {
        sentence("As told; nobody, no TREES; THE LOT is 1.");
        HalfLadders x = new HalfLadders();
        for (int what = 0; what <= 3; what++) {
            due("count(" + what + ")", x.count(what), 0);
        }
        for (int what = 0; what <= 4; what++) {
            due("now(" + what + ")", x.now(what), 0);
            due("half(0, " + what + ")", x.half(0, what), BAD);
            due("tree(0, " + what + ")", x.tree(0, what), BAD);
        }
        due("fit(0, 1)", x.fit(0, 1), BAD);
        due("climb(0, 1, 0)", x.climb(0, 1, 0), BAD);
        due("best(-1)", x.best(-1), 0);
        due("best(0)", x.best(0), BAD);
        due("season(8)", x.season(8), 0);
        due("whole(-1)", x.whole(-1), 0);
        due("worth(0, 0)", x.worth(0, 0), BAD);
        due("asked(0)", x.asked(0), BAD);
        due("cuts(1)", x.cuts(1), NONE);
        due("whose(1, 1, 0)", x.whose(1, 1, 0), 0);
        due("whose(1, 1, 1)", x.whose(1, 1, 1), NONE);
        due("mark(0, 0)", x.mark(0, 0), NO);
        due("back(0)", x.back(0), STATE);
        due("clear()", x.clear(), 0);
        due("trace()", x.trace(), 0);
        due("ends()", x.ends(), 0);
        due("lot(1)", x.lot(1), 1);
        due("year()", x.year(), 0);
    }

    private static void fiveHundredAndTwelveCalls() {
        sentence("An object is used for at most 512 calls after it has been made");
        HalfLadders x = new HalfLadders();
        for (int call = 1; call <= 512; call++) {
            due("call " + call, x.lot(call + 1), call);
        }
        HalfLadders marked = told("left 1 1 1;");
        for (int call = 4; call <= 511; call++) {
            due("mark(5, 0), call " + call, marked.mark(5, 0), 1);
        }
        due("trace(), call 512", marked.trace(), 508 * 100001L);
    }

    private static void dearestCalls() {
        sentence("An object is used for at most 512 calls after it has been made");
        String text = FOUR_LEFT + FOUR_RIGHT + "tree 1 0 99;tree 1 1 99;tree 1 2 99;tree 1 3 99;tree 1 4 99;";
        HalfLadders x = told(text);
        int calls = (text.length() + 7) / 8 + 1;
        // one tree is ripe on DAY 0, then 2, 3, 4, 4, 3, 2 and 1: 10 of each
        for (int call = calls + 1; call <= 512; call++) {
            due("season(8), call " + call, x.season(8), 200);
        }
    }

    private static void constants() {
        sentence("What none is, where a number may be below 0.");
        due("NO", HalfLadders.NO, NO);
        due("BAD", HalfLadders.BAD, BAD);
        due("STATE", HalfLadders.STATE, STATE);
        due("FULL", HalfLadders.FULL, FULL);
        due("NONE", HalfLadders.NONE, NONE);
    }

    // ---- the text

    private static void texts() {
        lowestBytes();
        howManyBytesOfACall();
        threeHundredBytes();
        fullTextsAreRead();
        cleared();
        noItems();
        itemsAreCounted();
    }

    private static void lowestBytes() {
        sentence("The lowest n (1 .. 8) bytes of v, the highest of them first, come to THE TEXT: how many it has.");
        String text = "left1 2 3;tree 4 5 67;  ";
        for (int n = 1; n <= 8; n++) {
            HalfLadders x = new HalfLadders();
            int has = 0;
            for (int i = 0; i < text.length(); i += n) {
                int most = Math.min(n, text.length() - i);
                // what stands above the lowest n bytes must not come
                long v = 'x';
                for (int j = 0; j < most; j++) {
                    v = v << 8 | text.charAt(i + j);
                }
                has += most;
                due("type(" + v + ", " + most + ")", x.type(v, most), has);
            }
            due("orchard() by " + n, x.orchard(), 2);
            due("half(0, 2) by " + n, x.half(0, 2), 2);
            due("tree(0, 2) by " + n, x.tree(0, 2), 67);
        }
    }

    private static void howManyBytesOfACall() {
        sentence("The lowest n (1 .. 8) bytes of v");
        edges("type(v, n)", 1, 8, (x, n) -> x.type(0x3b3b3b3b3b3b3b3bL, n), BAD);
        for (int n = 1; n <= 8; n++) {
            HalfLadders x = new HalfLadders();
            due("type(-1, " + n + ")", x.type(-1L, n), n);
            due("type(0, " + n + ")", x.type(0L, n), 2 * n);
            due("count(3)", x.count(3), 2 * n);
        }
    }

    private static void threeHundredBytes() {
        sentence("They are a text (300 bytes at most)");
        for (int bytes = 1; bytes <= 8; bytes++) {
            int n = bytes;
            HalfLadders x = new HalfLadders();
            typed(x, " ".repeat(299 - n));
            due("to 299 by " + n, x.type(0L, n), 299);
            HalfLadders y = new HalfLadders();
            typed(y, " ".repeat(300 - n));
            due("to 300 by " + n, y.type(0L, n), 300);
            for (int has = 301 - n; has <= 300; has++) {
                String most = " ".repeat(has);
                refused("type(v, " + n + ") with " + has, z -> typed(z, most), z -> z.type(-1L, n), FULL);
            }
        }
        sentence("BAD; FULL.");
        HalfLadders x = new HalfLadders();
        typed(x, " ".repeat(293));
        due("eight", x.type(0L, 8), FULL);
        due("seven after that", x.type(0L, 7), 300);
        due("one after that", x.type(0L, 1), FULL);
    }

    private static void fullTextsAreRead() {
        sentence("They are a text (300 bytes at most), read byte by byte");
        reads(" ".repeat(288) + "left 1 1 1;", 1);
        reads(" ".repeat(289) + "left 1 1 1;", 1);
        reads("left 1 1 1;" + " ".repeat(289), 1);
        reads(TWO + "quarrel 0 1;".repeat(23), 25);
        fault(" ".repeat(299) + "x", 299);
        fault(" ".repeat(299) + ";", 299);
        fault("left 1 1 1" + " ".repeat(289), 299);
        fault("left 1 1 1" + " ".repeat(290), 300);
        fault("x" + " ".repeat(299), 0);
        fault("x".repeat(300), 0);
        fault(";".repeat(300), 0);
        fault("9".repeat(300), 0);
        fault("left " + "1".repeat(295), 5);
        fault("left 1 1 1;" + "1 ".repeat(144) + "1", 11);
        // what a longer text held before must not be read behind the end of a shorter one
        HalfLadders x = new HalfLadders();
        typed(x, "left 1 1 1;left 2 2 2;");
        x.clear();
        typed(x, "left 3 3 3");
        due("orchard() of a shorter text", x.orchard(), -20);
        typed(x, ";");
        due("orchard()", x.orchard(), 1);
        due("half(0, 1)", x.half(0, 1), 3);
        due("nobody else", x.count(0), 1);
    }

    private static void cleared() {
        sentence("THE TEXT is empty: how many bytes it had.");
        for (int has : new int[] {0, 1, 8, 299, 300}) {
            HalfLadders x = new HalfLadders();
            typed(x, ";".repeat(has));
            due("clear() of " + has, x.clear(), has);
            due("clear() again", x.clear(), 0);
            due("count(3)", x.count(3), 0);
            due("orchard()", x.orchard(), 0);
        }
        HalfLadders x = new HalfLadders();
        typed(x, " ".repeat(300));
        due("type of a full text", x.type(0L, 1), FULL);
        x.clear();
        due("type after clear()", x.type(0L, 8), 8);
        refused("clear() of nothing", HalfLaddersBoundaries::busyDay, HalfLadders::clear, 0);
    }

    private static void noItems() {
        sentence("ITEMS (none, too), each ended by ;");
        reads("", 0);
        reads(" ", 0);
        reads(" ".repeat(299), 0);
        reads(" ".repeat(300), 0);
        reads("left 1 1 1;", 1);
        fault(";", 0);
        fault(" ;", 1);
        fault("left 1 1 1;;", 11);
        fault("left 1 1 1 ; ;", 13);
        fault(";left 1 1 1;", 0);
        fault("left 1 1 1", 10);
        fault("left 1 1 1 left 1 1 1;", 11);
        fault("left 1 1 1;left 1 1 1", 21);
        HalfLadders x = busy();
        x.clear();
        due("orchard() of nothing", x.orchard(), 0);
        due("nobody", x.count(0), 0);
        due("no trees", x.count(1), 0);
        due("no quarrels", x.count(2), 0);
        due("no day", x.now(0), 0);
        due("no image", x.back(0), STATE);
    }

    private static void itemsAreCounted() {
        sentence("THE TEXT tells all, and is empty then: how many ITEMS.");
        StringBuilder text = new StringBuilder();
        int items = 0;
        for (String item : (FOUR_LEFT + FOUR_RIGHT + FIVE_TREES + "quarrel 0 1;quarrel 0 1;quarrel 1 0;quarrel 1 2;").split(";")) {
            text.append(item).append(';');
            items++;
            reads(text.toString(), items);
        }
        HalfLadders x = told(text.toString());
        due("empty then", x.count(3), 0);
        due("clear()", x.clear(), 0);
        due("type after orchard()", x.type(0L, 8), 8);
    }

    // ---- numbers of items

    private static void numbersOfItems() {
        numbersInOrder();
        gapsLengthsPaces();
        highs();
        ripes();
        basketsTold();
        eightHalves();
        fiveTrees();
    }

    private static void numbersInOrder() {
        sentence("left G L P, right G L P");
        HalfLadders x = told("left 1 2 3;right 4 5 6;tree 7 8 9;");
        int[][] halves = {{0, 1, 2, 3}, {1, 4, 5, 6}};
        for (int p = 0; p <= 1; p++) {
            for (int what = 0; what <= 3; what++) {
                due("half(" + p + ", " + what + ")", x.half(p, what), halves[p][what]);
            }
        }
        sentence("tree H R B.");
        for (int what = 0; what <= 2; what++) {
            due("tree(0, " + what + ")", x.tree(0, what), 7 + what);
        }
    }

    /** A number of an item at both ends of what it may be, one below and one above. */
    private static void numberOfItem(String ahead, String behind, int least, int greatest, ToLongFunction<HalfLadders> reading) {
        for (int number = least; number <= greatest; number++) {
            due(ahead + number + behind, reading.applyAsLong(told(ahead + number + behind)), number);
        }
        for (int number : new int[] {least - 1, greatest + 1, 100}) {
            fault(ahead + number + behind, ahead.length());
            fault(ahead + "  " + number + behind, ahead.length() + 2);
        }
    }

    private static void gapsLengthsPaces() {
        sentence("SIDE (left or right), GAP (1 .. 9), LONG (1 .. 9), and a PACE (1 .. 9).");
        for (String side : new String[] {"left", "right"}) {
            numberOfItem(side + " ", " 4 6;", 1, 9, x -> x.half(0, 1));
            numberOfItem(side + " 4 ", " 6;", 1, 9, x -> x.half(0, 2));
            numberOfItem(side + " 4 6 ", ";", 1, 9, x -> x.half(0, 3));
        }
        due("left", told("left 1 1 1;").half(0, 0), 0);
        due("right", told("right 1 1 1;").half(0, 0), 1);
    }

    private static void highs() {
        sentence("are HIGH (1 .. 9)");
        numberOfItem("tree ", " 3 4;", 1, 9, x -> x.tree(0, 0));
    }

    private static void ripes() {
        sentence("RIPE from a day on (0 .. 20; that and three more)");
        numberOfItem("tree 2 ", " 4;", 0, 20, x -> x.tree(0, 1));
    }

    private static void basketsTold() {
        sentence("have BASKETS (0 .. 99)");
        numberOfItem("tree 2 3 ", ";", 0, 99, x -> x.tree(0, 2));
        numberOfItem("tree 2 3 ", ";", 0, 99, x -> x.tree(0, 3));
        numberOfItem("tree 2 3 ", ";", 0, 99, x -> x.now(3));
    }

    private static void eightHalves() {
        sentence("(8 at most) have a half of a ladder");
        String all = FOUR_LEFT + FOUR_RIGHT;
        for (int people = 0; people <= 8; people++) {
            String text = all.substring(0, people <= 4 ? 11 * people : 44 + 12 * (people - 4));
            HalfLadders x = told(text);
            due("count(0) of " + text, x.count(0), people);
            due("half ahead of the last", x.half(people - 1, 1), people == 0 ? BAD : 5);
            due("half behind the last", x.half(people, 1), BAD);
        }
        String eightLeft = FOUR_LEFT + FOUR_LEFT;
        reads(eightLeft, 8);
        reads(eightLeft + FIVE_TREES + "quarrel 0 7;", 14);
        for (String ninth : new String[] {"left 1 1 1;", "right 1 1 1;", "left", "right", "left 0;", "right x"}) {
            fault(all + ninth, all.length());
            fault(eightLeft + ninth, eightLeft.length());
            fault(eightLeft + FIVE_TREES + "  " + ninth, eightLeft.length() + FIVE_TREES.length() + 2);
        }
    }

    private static void fiveTrees() {
        sentence("TREES 0 .. (5 at most)");
        for (int trees = 0; trees <= 5; trees++) {
            HalfLadders x = told(FIVE_TREES.substring(0, 11 * trees));
            due("count(1)", x.count(1), trees);
            due("tree ahead of the last", x.tree(trees - 1, 2), trees == 0 ? BAD : 9);
            due("tree behind the last", x.tree(trees, 2), BAD);
            due("all baskets", x.now(3), 9 * trees);
        }
        reads(FIVE_TREES + FOUR_LEFT + FOUR_RIGHT, 13);
        for (String sixth : new String[] {"tree 1 0 9;", "tree", "tree 0;", "tree x"}) {
            fault(FIVE_TREES + sixth, 55);
            fault(FIVE_TREES + FOUR_LEFT + "  " + sixth, 101);
        }
    }

    // ---- tokens

    private static void tokens() {
        blanksAnywhere();
        eachByteAheadOfTokens();
        eachByteBehindAWord();
        eachByteBehindANumber();
        eachByteBehindAnItem();
        noBlanksNeeded();
        otherWords();
        otherNumbers();
    }

    private static void blanksAnywhere() {
        sentence("blanks (32) ahead of, between and behind TOKENS as may be");
        String[] tokens = {"left", "1", "2", "3", ";", "right", "4", "5", "6", ";", "quarrel", "0", "1", ";", "tree", "7", "8", "9", ";"};
        for (int blanks = 1; blanks <= 12; blanks++) {
            String between = " ".repeat(blanks);
            String text = between + String.join(between, tokens) + between;
            reads(text, 4);
            due("half(1, 3)", told(text).half(1, 3), 6);
            due("tree(0, 2)", told(text).tree(0, 2), 9);
        }
        reads("le ft 1 1 1;".replace(" f", "f"), 1);
        fault("le ft 1 1 1;", 0);
        fault("tree 1 1 1 0;", 11);
    }

    private static boolean isLetter(int b) {
        return b >= 'a' && b <= 'z';
    }

    private static boolean isDigit(int b) {
        return b >= '0' && b <= '9';
    }

    private static void eachByteAheadOfTokens() {
        sentence("blanks (32) ahead of");
        for (int b = 0; b <= 255; b++) {
            reads((char) b + "left 1 2 3;", b == ' ' ? 1 : -10);
            // with a number there, the 3 is one too many
            reads("left" + (char) b + " 1 2 3;", b == ' ' ? 1 : isLetter(b) ? -10 : b >= '1' && b <= '9' ? -20 : -14);
        }
    }

    private static void eachByteBehindAWord() {
        sentence("TOKENS are words of letters a .. z (left, right, quarrel, tree), NUMBERS and ;");
        for (int b = 0; b <= 255; b++) {
            // a letter makes another word of it; a digit makes another number of the 1
            reads("left" + (char) b + "1 2 3;", b == ' ' ? 1 : isLetter(b) ? -10 : -14);
            reads("tree" + (char) b + " 2 3;", b >= '1' && b <= '9' ? 1 : isLetter(b) ? -10 : b == ' ' ? -19 : -14);
        }
        fault("left`1 2 3;", 4);
        fault("left{1 2 3;", 4);
        fault("lefta1 2 3;", 0);
        fault("leftz1 2 3;", 0);
        fault("left@1 2 3;", 4);
        fault("left[1 2 3;", 4);
    }

    private static void eachByteBehindANumber() {
        sentence("of a byte that begins none");
        for (int b = 0; b <= 255; b++) {
            reads("tree 1 1" + (char) b + " 5;", b == ' ' || isDigit(b) ? 1 : -18);
            reads("tree 1 1 5" + (char) b + ";", b == ' ' || isDigit(b) ? 1 : b == ';' ? -21 : -20);
        }
        fault("tree 1 1 5/;", 10);
        fault("tree 1 1 5:;", 10);
        fault("tree 1 1 5<;", 10);
        fault("tree 1 1 -5;", 9);
        fault("tree 1 1 +5;", 9);
        fault("tree 1 1 5.;", 10);
    }

    private static void eachByteBehindAnItem() {
        sentence("blanks (32) ahead of, between and behind TOKENS as may be");
        for (int b = 0; b <= 255; b++) {
            reads("left 1 2 3;" + (char) b, b == ' ' ? 1 : -21);
            reads("left 1 2 3" + (char) b, b == ';' ? 1 : isDigit(b) ? -19 : -20 - (b == ' ' ? 1 : 0));
        }
        fault("left 1 2 3;\u001f", 11);
        fault("left 1 2 3;!", 11);
        fault("left 1 2 3;\t", 11);
        fault("left 1 2 3;\n", 11);
        fault("left 1 2 3;\u0000", 11);
        fault("left 1 2 3;\u00a0", 11);
    }

    private static void noBlanksNeeded() {
        sentence("(none needed where TOKENS end without)");
        HalfLadders x = told("left1 2 3;right4 5 6;quarrel0 1;tree7 8 9;");
        due("people", x.count(0), 2);
        due("quarrels", x.count(2), 1);
        due("trees", x.count(1), 1);
        due("left's GAP", x.half(0, 1), 1);
        due("right's PACE", x.half(1, 3), 6);
        due("tree's BASKETS", x.tree(0, 2), 9);
        fault("left12 3;", 4);
        fault("left1 23;", 6);
        fault("leftright 1 1 1;", 0);
        fault("treetree 1 1 1;", 0);
        fault("tree1 123;", 6);
        fault("quarrel01;", 7);
    }

    private static void otherWords() {
        sentence("a word that is none of these");
        for (String word : WORDS) {
            String numbers = word.equals("quarrel") ? " 0 1;" : " 1 1 1;";
            reads(TWO + word + numbers, 3);
            for (String other : wordsLike(word)) {
                fault(TWO + other + numbers, TWO.length());
            }
            for (int end = 1; end < word.length(); end++) {
                fault(TWO + word.substring(0, end), TWO.length());
                fault(TWO + " " + word.substring(0, end) + " " + word.substring(end) + numbers, TWO.length() + 1);
            }
        }
        fault(TWO + "l 1 1 1;", TWO.length());
        fault(TWO + "item 1 1 1;", TWO.length());
    }

    private static List<String> wordsLike(String word) {
        List<String> others = new ArrayList<>(List.of(word.substring(1), word.substring(0, word.length() - 1), "a" + word,
            "z" + word, word + "a", word + "z", word + word, word.toUpperCase(), word + "s"));
        for (int i = 0; i < word.length(); i++) {
            String ahead = word.substring(0, i);
            String behind = word.substring(i + 1);
            others.add(ahead + (char) (word.charAt(i) + 1) + behind);
            others.add(ahead + (char) (word.charAt(i) - 1) + behind);
            others.add(ahead + (char) (word.charAt(i) - 32) + behind);
        }
        return others;
    }

    private static void otherNumbers() {
        sentence("a NUMBER above 99 or with a 0 ahead of others, that TOKEN's");
        for (int number = 0; number <= 9; number++) {
            reads("tree 1 1 " + number + ";", 1);
            reads("tree 1 1 0" + number + ";", -19);
            reads("tree 1 1 00" + number + ";", -19);
            reads("tree 0" + number + " 1 1;", -15);
            reads("tree 1 0" + number + " 1;", -17);
        }
        for (int number = 10; number <= 1100; number++) {
            reads("tree 1 1 " + number + ";", number <= 99 ? 1 : -19);
            reads("tree 1 1 0" + number + ";", -19);
        }
        // each of these wraps to a number that might stand
        for (String number : new String[] {"256", "257", "65537", "4294967296", "4294967297", "4294967301", "18446744073709551617"}) {
            fault("tree 1 1 " + number + ";", 9);
            fault("left " + number + " 1 1;", 5);
        }
        fault("tree 1 1 99 ;tree 1 1 099;", 22);
        fault("100", 0);
        fault("00", 0);
        fault("left 01", 5);
        fault("left 1 1 1;quarrel 00 0;", 19);
        fault(TWO + "quarrel 0 01;", TWO.length() + 10);
        fault(TWO + "quarrel 00 1;", TWO.length() + 8);
    }

    // ---- faults

    private static void faults() {
        tokensThatCannotStand();
        endsTooEarly();
        firstFaultTells();
        faultChangesNothing();
    }

    private static void tokensThatCannotStand() {
        sentence("FAULT: the place of the first byte of the first TOKEN that can't stand there");
        String[][] items = {{"left", "1", "2", "3", ";"}, {"right", "1", "2", "3", ";"}, {"quarrel", "0", "1", ";"}, {"tree", "1", "2", "3", ";"}};
        for (String[] item : items) {
            StringBuilder ahead = new StringBuilder(TWO);
            for (int i = 0; i < item.length; i++) {
                for (String token : new String[] {"left", "right", "quarrel", "tree", "1", ";", "x", "100", "!"}) {
                    if (!mayStand(token, i, item.length)) {
                        fault(ahead + token + " 1 1 1;", ahead.length());
                        fault(ahead + token, ahead.length());
                    }
                }
                ahead.append(item[i]).append(' ');
            }
        }
    }

    private static boolean mayStand(String token, int place, int length) {
        boolean isWord = List.of(WORDS).contains(token);
        return place == 0 ? isWord : place == length - 1 ? token.equals(";") : token.equals("1");
    }

    private static void endsTooEarly() {
        sentence("the text's length, if it ends too early.");
        String[] tokens = {"left", "1", "2", "3", ";", "right", "4", "5", "6", ";", "quarrel", "0", "1", ";", "tree", "7", "8", "9", ";"};
        StringBuilder text = new StringBuilder();
        int items = 0;
        for (String token : tokens) {
            text.append(token);
            if (token.equals(";")) {
                items++;
                reads(text.toString(), items);
                reads(text + " ", items);
            } else {
                fault(text.toString(), text.length());
                fault(text + " ", text.length() + 1);
                fault(text + "     ", text.length() + 5);
            }
            text.append(' ');
        }
        fault("left", 4);
        fault("quarrel", 7);
        fault("tree 1 1", 8);
    }

    private static void firstFaultTells() {
        sentence("the first TOKEN that can't stand there");
        fault("left 0 0 0;", 5);
        fault("left 1 0 0;", 7);
        fault("left 1 1 0;;", 9);
        fault("x left 1 1 1;", 0);
        fault("left 1 1 1;x;", 11);
        fault("left 1 1 ! x", 9);
        fault("left 1 0 !", 7);
        fault("! left 1 0", 0);
        fault("tree 10 21 100;", 5);
        fault("tree 9 21 100;", 7);
        fault("tree 9 20 100;", 10);
        fault("tree 9 20 99", 12);
        fault("quarrel 0 0", 8);
        fault("left 1 1 1;quarrel 1 1;", 19);
    }

    private static void faultChangesNothing() {
        sentence("-10 less FAULT: nothing changes (THE TEXT, too, stays).");
        HalfLadders x = busy();
        due("too early", x.orchard(), -20);
        due("the text stays", x.count(3), 10);
        due("again", x.orchard(), -20);
        due("people stay", x.count(0), 4);
        due("quarrels stay", x.fit(2, 3), 0);
        due("baskets stay", x.tree(0, 3), 58);
        due("the image stays", x.back(0), 1);
        due("on", x.type(';', 1), 11);
        due("all told", x.orchard(), 1);
        due("one half", x.count(0), 1);
        due("its PACE", x.half(0, 3), 3);
        due("the image is gone", x.back(0), STATE);
        // a text with more people, trees and quarrels than those that stand, but for its last byte
        fault(FOUR_LEFT + FOUR_RIGHT + FIVE_TREES + "quarrel 0 1;quarrel 4 5;x", 147 + 24);
    }

    // ---- quarrels

    private static void quarrels() {
        twoThatWereTold();
        notOneAndTheSame();
        ofOneSide();
        toldAgain();
        howManyQuarrels();
    }

    private static void twoThatWereTold() {
        sentence("quarrel A B (two that were told");
        for (int people = 0; people <= 8; people++) {
            String text = "left 1 1 1;".repeat(people) + "quarrel ";
            int place = text.length();
            for (int p : new int[] {people, people + 1, 99}) {
                fault(text + p + " 0;", place);
                if (people > 0) {
                    fault(text + "0 " + p + ";", place + 2);
                }
            }
            if (people > 1) {
                reads(text + "0 " + (people - 1) + ";", people + 1);
                reads(text + (people - 1) + " 0;", people + 1);
            }
        }
        // one that is told later was not told there
        fault("quarrel 0 1;left 1 1 1;right 1 1 1;", 8);
        fault("left 1 1 1;quarrel 0 1;right 1 1 1;", 21);
        fault("left 1 1 1;quarrel 1 0;right 1 1 1;", 19);
        reads("left 1 1 1;right 1 1 1;quarrel 0 1;right 1 1 1;", 4);
    }

    private static void notOneAndTheSame() {
        sentence("(a ninth half, a sixth tree, a B that is A, a NUMBER beyond what it may be, too)");
        String text = "left 1 1 1;".repeat(8) + "quarrel ";
        for (int a = 0; a < 8; a++) {
            for (int b = 0; b < 8; b++) {
                reads(text + a + " " + b + ";", a == b ? -10 - text.length() - 2 : 9);
            }
        }
        fault(text + "0 0;", text.length() + 2);
        fault(text + "7 7;", text.length() + 2);
        fault("left 1 1 1;quarrel 0 0;", 21);
    }

    private static void ofOneSide() {
        sentence("not one and the same; of one SIDE, too");
        HalfLadders x = told("left 1 1 1;left 1 1 1;right 1 1 1;right 1 1 1;quarrel 0 1;quarrel 2 3;");
        due("quarrels", x.count(2), 2);
        due("fit(0, 1)", x.fit(0, 1), 0);
        due("fit(0, 2)", x.fit(0, 2), 1);
        due("fit(1, 3)", x.fit(1, 3), 1);
        due("cuts(2)", x.cuts(2), 0);
    }

    private static void toldAgain() {
        sentence("told again: it is one");
        HalfLadders x = told(TWO + "quarrel 0 1;");
        due("once", x.count(2), 1);
        due("again", told(TWO + "quarrel 0 1;quarrel 0 1;").count(2), 1);
        due("the other way", told(TWO + "quarrel 0 1;quarrel 1 0;").count(2), 1);
        due("the other way alone", told(TWO + "quarrel 1 0;").count(2), 1);
        due("never", told(TWO).count(2), 0);
        typed(x, TWO + "quarrel 0 1;");
        due("read again", x.orchard(), 3);
        due("and still one", x.count(2), 1);
        due("no fit", x.fit(0, 1) + x.fit(1, 0), 0);
    }

    private static void howManyQuarrels() {
        sentence("0 PEOPLE, 1 TREES, 2 QUARRELS (pairs), 3 bytes of THE TEXT. BAD.");
        edges("count(what)", 0, 3, HalfLadders::count, BAD);
        HalfLadders x = busy();
        due("count(0)", x.count(0), 4);
        due("count(1)", x.count(1), 3);
        due("count(2)", x.count(2), 1);
        due("count(3)", x.count(3), 10);
        String people = "left1 1 1;".repeat(7);
        StringBuilder text = new StringBuilder(people);
        int pairs = 0;
        for (int a = 0; a < 7; a++) {
            for (int b = a + 1; b < 7 && text.length() + 11 <= 300; b++) {
                text.append("quarrel").append(a).append(' ').append(b).append(';');
                pairs++;
            }
        }
        due("quarrels of seven", told(text.toString()).count(2), pairs);
        due("as many as the text holds", pairs, 20);
    }

    // ---- read anew

    private static void readAnew() {
        nowAsAtFirst();
        lotStaysWhenRead();
        imagesGoWhenRead();
        traceStaysWhenRead();
        nothingOfAnOlderTextStays();
        nothingOfARefusedTextStays();
    }

    /** A busy day to whose end trees fell, with the same people and trees typed again. */
    private static HalfLadders retold() {
        HalfLadders x = busy();
        pass(x, 4);
        x.climb(0, 3, 2);
        x.keep(1);
        x.clear();
        typed(x, PEOPLE + TREES);
        due("orchard()", x.orchard(), 8);
        return x;
    }

    private static void nowAsAtFirst() {
        sentence("Read anew: NOW is as at first");
        HalfLadders x = retold();
        int[] now = {0, 0, 0, 88, 0};
        for (int what = 0; what <= 4; what++) {
            due("now(" + what + ")", x.now(what), now[what]);
        }
        int[] left = {70, 9, 9};
        for (int t = 0; t <= 2; t++) {
            due("tree(" + t + ", 3)", x.tree(t, 3), left[t]);
            due("tree(" + t + ", 4)", x.tree(t, 4), 0);
        }
        for (int p = 0; p <= 3; p++) {
            due("half(" + p + ", 4)", x.half(p, 4), 0);
        }
        due("climb(0, 1, 0)", x.climb(0, 1, 0), 12);
    }

    private static void lotStaysWhenRead() {
        sentence("NOW is as at first, but THE LOT, which stays");
        due("lot", retold().lot(0), 77);
        HalfLadders x = new HalfLadders();
        x.orchard();
        due("lot at first", x.lot(0), 1);
        x.lot(Integer.MIN_VALUE);
        x.orchard();
        due("least lot", x.lot(0), Integer.MIN_VALUE);
    }

    private static void imagesGoWhenRead() {
        sentence("IMAGES are gone");
        HalfLadders x = retold();
        due("back(0)", x.back(0), STATE);
        due("back(1)", x.back(1), STATE);
        due("now(0)", x.now(0), 0);
        due("keep(1)", x.keep(1), 0);
        due("back(0)", x.back(0), STATE);
        due("back(1)", x.back(1), 0);
        x.orchard();
        due("gone with an empty text, too", x.back(1), STATE);
    }

    private static void traceStaysWhenRead() {
        sentence("THE TRACE stays");
        HalfLadders x = retold();
        due("trace()", x.trace(), 11);
        x.orchard();
        due("trace() without people", x.trace(), 11);
        due("mark(0, 0)", x.mark(0, 0), NO);
        due("trace()", x.trace(), 11);
    }

    /** The calls lead to a state that answers as that of a new object to which the text alone was told. */
    private static void asIfNew(String name, Consumer<HalfLadders> calls, String text) {
        HalfLadders x = new HalfLadders();
        calls.accept(x);
        typed(x, text);
        x.orchard();
        HalfLadders anew = told(text);
        for (Later later : LATER) {
            due(later.name + " after " + name + " and " + text, later.call.applyAsLong(x), later.call.applyAsLong(anew));
        }
    }

    private static String[] unlikeTexts() {
        return new String[] {"", TWO, "tree 1 0 9;", FOUR_LEFT + FOUR_RIGHT + FIVE_TREES, FOUR_RIGHT + FOUR_LEFT + "tree 5 0 99;",
            PEOPLE + TREES, "left 7 7 7;right 7 6 5;left 7 1 1;right 7 9 2;tree 1 0 9;", TWO + "tree 1 0 9;tree 1 0 2;",
            "left 1 1 1;right 2 1 1;left 1 1 1;right 2 1 1;tree 1 0 9;tree 1 0 9;", FOUR_LEFT + "quarrel 0 1;quarrel 2 3;" + FIVE_TREES};
    }

    private static void nothingOfAnOlderTextStays() {
        sentence("THE TEXT tells all, and is empty then");
        for (String older : unlikeTexts()) {
            for (String newer : unlikeTexts()) {
                Consumer<HalfLadders> aDay = x -> {
                    toldInto(x, older, 0);
                    x.keep(0);
                    x.best(-1);
                    x.climb(0, 1, 0);
                    x.ends();
                };
                asIfNew(older, aDay, newer);
                asIfNew("a day between, " + older, x -> {
                    aDay.accept(x);
                    toldInto(x, TWO, 5);
                }, newer);
            }
        }
    }

    private static void nothingOfARefusedTextStays() {
        sentence("-10 less FAULT: nothing changes");
        for (String refused : unlikeTexts()) {
            for (String newer : unlikeTexts()) {
                asIfNew("a refused " + refused, x -> {
                    typed(x, refused + "x");
                    x.orchard();
                    x.clear();
                }, newer);
            }
        }
        HalfLadders x = told(TWO);
        typed(x, TWO + "quarrel 0 1;x");
        due("with a quarrel, but refused", x.orchard(), -10 - TWO.length() - 12);
        due("no quarrel", x.count(2), 0);
        x.clear();
        typed(x, TWO);
        due("without", x.orchard(), 2);
        due("no quarrel", x.count(2), 0);
        due("fit(0, 1)", x.fit(0, 1), 1);
    }

    // ---- halves and trees

    private static void halvesAndTrees() {
        halfAsTold();
        treeAsTold();
    }

    private static void halfAsTold() {
        sentence("0 SIDE (0 left, 1 right), 1 GAP, 2 LONG, 3 PACE, 4 whether its owner did climb on this DAY. BAD.");
        edges("half(p, 0)", 0, 3, (x, p) -> x.half(p, 0), BAD);
        edges("half(p, 4)", 0, 3, (x, p) -> x.half(p, 4), BAD);
        edges("half(0, what)", 0, 4, (x, what) -> x.half(0, what), BAD);
        edges("half(3, what)", 0, 4, (x, what) -> x.half(3, what), BAD);
        int[][] halves = {{0, 7, 7, 7, 1}, {1, 7, 6, 5, 1}, {0, 7, 1, 1, 0}, {1, 7, 9, 2, 0}};
        HalfLadders x = busy();
        for (int p = 0; p <= 3; p++) {
            for (int what = 0; what <= 4; what++) {
                due("half(" + p + ", " + what + ")", x.half(p, what), halves[p][what]);
            }
        }
        x.ends();
        due("on the next day", x.half(0, 4) + x.half(1, 4), 0);
    }

    private static void treeAsTold() {
        sentence("0 HIGH, 1 RIPE, 2 BASKETS as told, 3 BASKETS left, 4 whether it was climbed on this DAY. BAD.");
        edges("tree(t, 0)", 0, 2, (x, t) -> x.tree(t, 0), BAD);
        edges("tree(t, 4)", 0, 2, (x, t) -> x.tree(t, 4), BAD);
        edges("tree(0, what)", 0, 4, (x, what) -> x.tree(0, what), BAD);
        edges("tree(2, what)", 0, 4, (x, what) -> x.tree(2, what), BAD);
        int[][] trees = {{6, 0, 70, 58, 1}, {1, 0, 9, 9, 0}, {9, 9, 9, 9, 0}};
        HalfLadders x = busy();
        for (int t = 0; t <= 2; t++) {
            for (int what = 0; what <= 4; what++) {
                due("tree(" + t + ", " + what + ")", x.tree(t, what), trees[t][what]);
            }
        }
        x.ends();
        due("on the next day", x.tree(0, 4), 0);
        due("left on the next day", x.tree(0, 3), 58);
    }

    // ---- who fits

    private static void fits() {
        sidesAndGaps();
        quarrelsFitNot();
        whoIsAskedToFit();
        laddersAreAsTheLesser();
        pacesAdded();
    }

    private static void sidesAndGaps() {
        sentence("Two FIT, if one is left and one right, their GAPS are alike");
        for (int a = 1; a <= 9; a++) {
            for (int b = 1; b <= 9; b++) {
                HalfLadders x = told("left " + a + " 1 1;right " + b + " 1 1;left " + b + " 1 1;right " + a + " 1 1;");
                due("left and right, " + a + " and " + b, x.fit(0, 1), a == b ? 1 : 0);
                due("right and left, " + a + " and " + b, x.fit(1, 0), a == b ? 1 : 0);
                due("left and left, " + a + " and " + b, x.fit(0, 2), 0);
                due("right and right, " + a + " and " + b, x.fit(1, 3), 0);
                due("alike", x.fit(0, 3) + x.fit(3, 0) + x.fit(1, 2) + x.fit(2, 1), 4);
            }
        }
    }

    private static void quarrelsFitNot() {
        sentence("and they are in no QUARREL");
        for (String quarrel : new String[] {"quarrel 0 1;", "quarrel 1 0;"}) {
            HalfLadders x = told(TWO + TWO + quarrel);
            due("fit(0, 1)", x.fit(0, 1), 0);
            due("fit(1, 0)", x.fit(1, 0), 0);
            due("fit(0, 3)", x.fit(0, 3), 1);
            due("fit(2, 1)", x.fit(2, 1), 1);
            due("fit(2, 3)", x.fit(2, 3), 1);
        }
        HalfLadders x = told(FOUR_LEFT + FOUR_RIGHT + "quarrel 0 7;quarrel 3 4;");
        due("fit(0, 7)", x.fit(7, 0) + x.fit(0, 7), 0);
        due("fit(4, 3)", x.fit(4, 3) + x.fit(3, 4), 0);
        due("fit(3, 7)", x.fit(3, 7) + x.fit(4, 0), 2);
    }

    private static void whoIsAskedToFit() {
        sentence("Whether two FIT: 1, 0. BAD (one and the same, too).");
        edges("fit(a, 0)", 1, 3, (x, a) -> x.fit(a, 0), BAD);
        edges("fit(0, b)", 1, 3, (x, b) -> x.fit(0, b), BAD);
        edges("fit(a, 3)", 0, 2, (x, a) -> x.fit(a, 3), BAD);
        for (int p = -1; p <= 4; p++) {
            int one = p;
            refused("fit(" + p + ", " + p + ")", HalfLaddersBoundaries::busy, x -> x.fit(one, one), BAD);
        }
    }

    private static void laddersAreAsTheLesser() {
        sentence("Their LADDER is as LONG as the lesser half.");
        for (int a = 1; a <= 9; a++) {
            for (int b = 1; b <= 9; b++) {
                HalfLadders x = told("left 1 " + a + " 1;right 1 " + b + " 1;");
                for (int height = 1; height <= 9; height++) {
                    due("LONG " + a + " and " + b + ", whose(1, " + height + ", 0)", x.whose(1, height, 0), Math.min(a, b) >= height ? 1 : 0);
                }
            }
        }
    }

    private static void pacesAdded() {
        sentence("They PICK both PACES, added.");
        for (int a = 1; a <= 9; a++) {
            for (int b = 1; b <= 9; b++) {
                HalfLadders x = told("left 1 1 " + a + ";right 1 1 " + b + ";tree 1 0 99;");
                due("best(-1) with " + a + " and " + b, x.best(-1), a + b);
                due("whole(3) with " + a + " and " + b, x.whole(3), a + b);
                due("climb(0, 1, 0) with " + a + " and " + b, x.climb(0, 1, 0), a + b);
            }
        }
    }

    // ---- who climbs

    private static void climbs() {
        whoMayBeTold();
        climbsThatCannotBe();
        climbersFit();
        onceADay();
        ripeFourDays();
        highAtMost();
        whatIsLeft();
    }

    private static void whoMayBeTold() {
        sentence("Two CLIMB a TREE: baskets. BAD (one and the same, too); STATE: it can't be.");
        edges("climb(a, 3, 1)", 0, 2, (x, a) -> x.climb(a, 3, 1), BAD);
        edges("climb(0, b, 1)", 1, 3, (x, b) -> x.climb(0, b, 1), BAD);
        edges("climb(2, 3, t)", 0, 2, (x, t) -> x.climb(2, 3, t), BAD);
        for (int p = -1; p <= 4; p++) {
            int one = p;
            refused("climb(" + p + ", " + p + ", 1)", HalfLaddersBoundaries::busy, x -> x.climb(one, one, 1), BAD);
        }
        String five = FOUR_LEFT + FOUR_RIGHT + FIVE_TREES;
        due("the last of all", told(five).climb(3, 7, 4), 9);
        due("the last of all, the other way", told(five).climb(7, 0, 4), 9);
        refused("a ninth one", x -> toldInto(x, five, 0), x -> x.climb(3, 8, 4), BAD);
        refused("a sixth tree", x -> toldInto(x, five, 0), x -> x.climb(3, 7, 5), BAD);
    }

    /** 2 and 3 could climb tree 0; each other call has one thing against it, and only that. */
    private static void oneThingAgainstIt(HalfLadders x) {
        toldInto(x, "left 1 5 1;right 1 5 1;left 1 5 1;right 1 5 1;left 1 5 1;right 2 5 1;quarrel 4 3;"
            + "tree 5 1 9;tree 1 0 9;tree 6 0 9;tree 1 0 0;tree 1 2 9;", 1);
        x.keep(0);
        x.climb(0, 1, 1);
    }

    private static void climbsThatCannotBe() {
        sentence("Two CLIMB a TREE: they FIT, neither did climb on this DAY, nobody did that TREE");
        int[][] against = {{2, 5, 0}, {2, 4, 0}, {4, 3, 0}, {0, 3, 0}, {2, 1, 0}, {0, 1, 0}, {2, 3, 1}, {2, 3, 2}, {2, 3, 3}, {2, 3, 4}};
        for (int[] c : against) {
            String two = c[0] + ", " + c[1] + ", " + c[2];
            refused("climb(" + two + ")", HalfLaddersBoundaries::oneThingAgainstIt, x -> x.climb(c[0], c[1], c[2]), STATE);
            refused("the other way, " + two, HalfLaddersBoundaries::oneThingAgainstIt, x -> x.climb(c[1], c[0], c[2]), STATE);
        }
        HalfLadders x = new HalfLadders();
        oneThingAgainstIt(x);
        for (int[] c : against) {
            x.climb(c[0], c[1], c[2]);
        }
        due("picked but 2", x.now(1), 2);
        due("with nothing against it", x.climb(2, 3, 0), 2);
        due("left", x.tree(0, 3), 7);
        due("picked", x.now(1), 4);
        due("who did", x.now(4), 15);
        HalfLadders y = new HalfLadders();
        oneThingAgainstIt(y);
        due("the other way, with nothing against it", y.climb(3, 2, 0), 2);
    }

    private static void climbersFit() {
        sentence("Two CLIMB a TREE: they FIT");
        String people = "left 1 1 1;right 1 1 1;left 2 1 1;right 3 1 1;left 1 1 1;quarrel 4 1;";
        for (int tree = 0; tree <= 1; tree++) {
            int t = tree;
            for (int[] two : new int[][] {{0, 2}, {0, 3}, {0, 4}, {1, 3}, {2, 1}, {2, 3}, {4, 1}, {4, 3}}) {
                String name = two[0] + " and " + two[1] + " fit not";
                refused(name, x -> toldInto(x, people + "tree 1 0 9;tree 1 0 9;", 0), x -> x.climb(two[0], two[1], t), STATE);
                refused(name, x -> toldInto(x, people + "tree 1 0 9;tree 1 0 9;", 0), x -> x.climb(two[1], two[0], t), STATE);
            }
            due("0 and 1 fit", told(people + "tree 1 0 9;tree 1 0 9;").climb(0, 1, t), 2);
        }
    }

    private static void onceADay() {
        sentence("neither did climb on this DAY, nobody did that TREE");
        HalfLadders x = told(FOUR_LEFT + FOUR_RIGHT + "tree 1 0 99;tree 1 0 99;");
        due("climb(0, 4, 0)", x.climb(0, 4, 0), 10);
        due("the same again", x.climb(0, 4, 0), STATE);
        due("that tree", x.climb(1, 5, 0), STATE);
        due("the left one did", x.climb(0, 5, 1), STATE);
        due("the right one did", x.climb(1, 4, 1), STATE);
        due("others", x.climb(1, 5, 1), 10);
        due("half(0, 4)", x.half(0, 4), 1);
        due("half(2, 4)", x.half(2, 4), 0);
        due("tree(0, 4)", x.tree(0, 4), 1);
        x.ends();
        due("who did on the next day", x.now(4), 0);
        due("the same on the next day", x.climb(0, 4, 0), 10);
        due("others on the next day", x.climb(1, 5, 1), 10);
        due("all picked", x.now(1), 40);
    }

    private static void ripeFourDays() {
        sentence("it is RIPE (DAY from RIPE to RIPE and 3)");
        for (int ripe = 0; ripe <= 20; ripe++) {
            String text = TWO + "tree 1 " + ripe + " 9;";
            for (int day = Math.max(0, ripe - 2); day <= ripe + 5; day++) {
                boolean isRipe = day >= ripe && day <= ripe + 3;
                due("RIPE " + ripe + ", climb on DAY " + day, told(text, day).climb(0, 1, 0), isRipe ? 2 : STATE);
                due("RIPE " + ripe + ", best(0) on DAY " + day, told(text, day).best(0), isRipe ? 1 : NONE);
                due("RIPE " + ripe + ", best(-1) on DAY " + day, told(text, day).best(-1), isRipe ? 2 : 0);
                due("RIPE " + ripe + ", left on DAY " + day, told(text, day).tree(0, 3), day <= ripe + 3 ? 9 : 0);
            }
            int ahead = ripe - 1;
            if (ahead >= 0) {
                refused("the DAY ahead", x -> toldInto(x, text, ahead), x -> x.climb(0, 1, 0), STATE);
            }
            refused("the DAY behind", x -> toldInto(x, text, ahead + 5), x -> x.climb(0, 1, 0), STATE);
        }
    }

    private static void highAtMost() {
        sentence("the LADDER is as LONG as it is HIGH at least");
        for (int high = 1; high <= 9; high++) {
            for (int lesser = Math.max(1, high - 1); lesser <= Math.min(9, high + 1); lesser++) {
                String tree = "tree " + high + " 0 9;";
                long want = lesser >= high ? 2 : STATE;
                String name = "a ladder of " + lesser + " at " + high;
                due(name, told("left 1 " + lesser + " 1;right 1 9 1;" + tree).climb(0, 1, 0), want);
                due(name, told("left 1 9 1;right 1 " + lesser + " 1;" + tree).climb(0, 1, 0), want);
                due(name, told("left 1 " + lesser + " 1;right 1 " + lesser + " 1;" + tree).climb(1, 0, 0), want);
                due(name + ", best", told("left 1 9 1;right 1 " + lesser + " 1;" + tree).best(-1), Math.max(want, 0));
            }
        }
    }

    private static void whatIsLeft() {
        sentence("has BASKETS left");
        for (int baskets = 0; baskets <= 20; baskets++) {
            String text = "left 1 1 9;right 1 1 9;tree 1 0 " + baskets + ";";
            HalfLadders x = told(text);
            int first = Math.min(18, baskets);
            due("climb of " + baskets, x.climb(0, 1, 0), first == 0 ? STATE : first);
            due("left of " + baskets, x.tree(0, 3), baskets - first);
            due("left on all", x.now(3), baskets - first);
            due("picked of " + baskets, x.now(1), first);
            due("climbed", x.tree(0, 4), first == 0 ? 0 : 1);
            due("who did", x.now(4), first == 0 ? 0 : 3);
            x.ends();
            due("the rest of " + baskets, x.climb(0, 1, 0), baskets > 18 ? baskets - 18 : STATE);
        }
        sentence("PICK baskets, or what is left.");
        HalfLadders x = told(TWO + "tree 1 0 3;");
        due("PICK and 1", x.climb(0, 1, 0), 2);
        x.ends();
        due("PICK less 1", x.climb(0, 1, 0), 1);
        x.ends();
        refused("none left of 2", y -> {
            toldInto(y, TWO + "tree 1 0 2;", 0);
            y.climb(0, 1, 0);
            y.ends();
        }, y -> y.climb(0, 1, 0), STATE);
        due("none left", x.climb(0, 1, 0), STATE);
        due("PICK", told(TWO + "tree 1 0 2;").climb(0, 1, 0), 2);
    }

    // ---- days

    private static void days() {
        thirtyDays();
        whatFalls();
        allThatFalls();
        nowTold();
        bitsOfClimbers();
    }

    private static void thirtyDays() {
        sentence("DAY 0 at first, 30 at most.");
        HalfLadders x = told(PEOPLE);
        due("DAY at first", x.now(0), 0);
        for (int day = 1; day <= 30; day++) {
            due("ends()", x.ends(), 0);
            due("DAY", x.now(0), day);
        }
        sentence("The DAY ends: what FALLS. STATE: it is DAY 30.");
        refused("ends() on DAY 30", y -> {
            busy(y);
            pass(y, 29);
        }, HalfLadders::ends, STATE);
        HalfLadders before = busy();
        pass(before, 28);
        due("DAY 29", before.now(0), 29);
        due("ends() on DAY 29", before.ends(), 0);
        due("ends() on DAY 30", before.ends(), STATE);
        due("and again", before.ends(), STATE);
        due("it stays DAY 30", before.now(0), 30);
        due("fallen", before.now(2), 58 + 9 + 9);
        before.year();
        due("DAY of a new YEAR", before.now(0), 0);
        due("its first DAY ends", before.ends(), 0);
        due("DAY 1", before.now(0), 1);
    }

    private static void whatFalls() {
        sentence("of TREES that are RIPE no more what is left FALLS");
        for (int ripe = 0; ripe <= 20; ripe++) {
            HalfLadders x = told(TWO + "tree 1 " + ripe + " 9;tree 1 20 1;");
            pass(x, ripe);
            x.climb(0, 1, 0);
            for (int day = ripe + 1; day <= 30; day++) {
                int falls = (day == ripe + 4 ? 7 : 0) + (day == 24 ? 1 : 0);
                due("RIPE " + ripe + ", as DAY " + day + " begins", x.ends(), falls);
                due("left of RIPE " + ripe, x.tree(0, 3), day >= ripe + 4 ? 0 : 7);
                due("left of RIPE 20", x.tree(1, 3), day >= 24 ? 0 : 1);
                due("fallen by DAY " + day, x.now(2), (day >= ripe + 4 ? 7 : 0) + (day >= 24 ? 1 : 0));
            }
            due("as told", x.tree(0, 2), 9);
            due("picked", x.now(1), 2);
        }
    }

    private static void allThatFalls() {
        sentence("(all, as the next DAY begins)");
        HalfLadders x = told("tree 1 0 99;tree 1 1 98;tree 1 0 97;tree 1 0 0;tree 1 1 1;", 2);
        due("DAY 3 begins", x.ends(), 0);
        due("all are left", x.now(3), 295);
        due("DAY 4 begins", x.ends(), 196);
        due("left", x.now(3), 99);
        due("DAY 5 begins", x.ends(), 99);
        due("none is left", x.now(3), 0);
        due("DAY 6 begins", x.ends(), 0);
        due("fallen", x.now(2), 295);
        HalfLadders most = told("tree 1 0 99;".repeat(5), 3);
        due("the most that falls", most.ends(), 495);
    }

    private static void nowTold() {
        sentence("0 DAY, 1 baskets picked, 2 fallen, 3 left on all TREES, 4 who did climb on this DAY (bits). BAD.");
        edges("now(what)", 0, 4, HalfLadders::now, BAD);
        HalfLadders x = busy();
        int[] now = {1, 12, 0, 76, 3};
        for (int what = 0; what <= 4; what++) {
            due("now(" + what + ")", x.now(what), now[what]);
        }
        pass(x, 3);
        int[] later = {4, 12, 67, 9, 0};
        for (int what = 0; what <= 4; what++) {
            due("later, now(" + what + ")", x.now(what), later[what]);
        }
    }

    private static void bitsOfClimbers() {
        sentence("4 who did climb on this DAY (bits)");
        HalfLadders x = told(FOUR_LEFT + FOUR_RIGHT + FIVE_TREES);
        x.climb(0, 7, 0);
        due("0 and 7", x.now(4), 129);
        x.climb(3, 4, 1);
        due("3 and 4, too", x.now(4), 129 + 24);
        x.climb(1, 6, 2);
        x.climb(5, 2, 4);
        due("all", x.now(4), 255);
        for (int p = 0; p <= 7; p++) {
            due("half(" + p + ", 4)", x.half(p, 4), 1);
        }
        due("tree 3 was not climbed", x.tree(3, 4), 0);
        x.ends();
        due("nobody", x.now(4), 0);
    }

    // ---- years

    private static void years() {
        yearBegins();
        drawsLeftOverBy21();
        basketsCut();
        treesInOrder();
        atFirstAsTold();
        lotsWrapped();
        anyLot();
    }

    /** What THE LOT must be to go on to a number: times the inverse of 1103515245. */
    private static int aheadOf(int goesTo) {
        int inverse = 1103515245;
        for (int i = 0; i < 5; i++) {
            inverse *= 2 - 1103515245 * inverse;
        }
        return (goesTo - 12345) * inverse;
    }

    private static void yearBegins() {
        sentence("A YEAR begins: DAY 0, nobody did climb, nothing fell, nothing was picked");
        HalfLadders x = busy();
        pass(x, 9);
        x.climb(0, 3, 2);
        x.climb(0, 1, 2);
        HalfLadders y = told("left 9 9 9;right 9 9 9;tree 9 9 9;tree 1 0 9;", 9);
        due("a climb", y.climb(0, 1, 0), 9);
        due("fallen", y.now(2), 9);
        y.lot(aheadOf(10 << 16));
        y.year();
        x.year();
        for (HalfLadders z : new HalfLadders[] {x, y}) {
            due("DAY", z.now(0), 0);
            due("picked", z.now(1), 0);
            due("fallen", z.now(2), 0);
            due("who did", z.now(4), 0);
            due("half(0, 4)", z.half(0, 4), 0);
            due("tree(0, 4)", z.tree(0, 4), 0);
        }
        due("BASKETS as told", y.tree(0, 2), 9);
        due("BASKETS times 10 by 10", y.tree(0, 3), 9);
        due("not ripe on DAY 0", y.climb(0, 1, 0), STATE);
    }

    private static void drawsLeftOverBy21() {
        sentence("DRAW: its upper 16 bits, left over by 21");
        int[] uppers = {0, 1, 9, 10, 19, 20, 21, 22, 41, 42, 32766, 32767, 32768, 32769, 65519, 65520, 65534, 65535};
        for (int upper : uppers) {
            for (int lower : new int[] {0, 1, 32767, 32768, 65535}) {
                HalfLadders x = told("tree 1 0 10;");
                x.lot(aheadOf(upper << 16 | lower));
                due("year() by upper bits " + upper, x.year(), upper % 21);
                due("left", x.tree(0, 3), upper % 21);
                due("lot", x.lot(0), upper << 16 | lower);
            }
        }
    }

    private static void basketsCut() {
        sentence("BASKETS times DRAW by 10, cut");
        for (int baskets : new int[] {0, 1, 9, 10, 11, 98, 99}) {
            for (int draw = 0; draw <= 20; draw++) {
                HalfLadders x = told("tree 1 0 " + baskets + ";");
                x.lot(aheadOf(draw << 16));
                // the tens of what is told twenty times at most
                String product = "0" + baskets * draw;
                int want = Integer.parseInt(product.substring(0, product.length() - 1));
                due("year() of " + baskets + " by " + draw, x.year(), want);
                due("left", x.tree(0, 3), want);
                due("as told", x.tree(0, 2), baskets);
            }
        }
        HalfLadders x = told("left 1 1 9;right 1 1 9;tree 1 0 99;");
        x.lot(aheadOf(20 << 16));
        due("the most", x.year(), 198);
        due("a climb", x.climb(0, 1, 0), 18);
        due("left", x.tree(0, 3), 180);
        pass(x, 3);
        due("more falls than was told", x.ends(), 180);
    }

    private static void treesInOrder() {
        sentence("each TREE in order (with 0 BASKETS, too)");
        HalfLadders x = told("tree 1 0 0;tree 1 0 10;");
        x.lot(aheadOf(aheadOf(20 << 16)));
        due("the second draw is the second tree's", x.year(), 20);
        due("tree(0, 3)", x.tree(0, 3), 0);
        due("tree(1, 3)", x.tree(1, 3), 20);
        due("lot", x.lot(0), 20 << 16);
        HalfLadders y = told("tree 1 0 10;tree 1 0 0;");
        y.lot(aheadOf(20 << 16));
        due("the first draw is the first tree's", y.year(), 20);
        due("and it goes on for the second", y.lot(0), (20 << 16) * 1103515245 + 12345);
        HalfLadders z = told(FIVE_TREES.replace("9;", "0;"));
        due("five without baskets", z.year(), 0);
        int lot = 1;
        for (int t = 0; t < 5; t++) {
            lot = lot * 1103515245 + 12345;
        }
        due("lot", z.lot(0), lot);
        due("BASKETS on all TREES", told("tree 1 0 0;").year(), 0);
        HalfLadders none = new HalfLadders();
        none.lot(5);
        due("without trees", none.year(), 0);
        due("no tree, no draw", none.lot(0), 5);
    }

    private static void atFirstAsTold() {
        sentence("at first as told");
        HalfLadders x = told(TWO + "tree 1 0 10;tree 1 0 99;");
        due("at first", x.tree(0, 3), 10);
        due("at first", x.tree(1, 3), 99);
        due("THE LOT has not gone on", x.lot(aheadOf(20 << 16)), 1);
        x.climb(0, 1, 0);
        pass(x, 5);
        x.year();
        due("of BASKETS as told", x.tree(0, 3), 20);
        x.lot(aheadOf(20 << 16));
        x.year();
        due("again of BASKETS as told", x.tree(0, 3), 20);
        sentence("A YEAR begins: BASKETS on all TREES.");
        x.lot(1);
        due("year()", x.year(), x.tree(0, 3) + x.tree(1, 3));
        due("now(3)", x.now(3), x.tree(0, 3) + x.tree(1, 3));
        // the upper 16 bits of 1103527590 are 16838, left over 17
        due("by 17", x.tree(0, 3), 17);
    }

    private static void lotsWrapped() {
        sentence("(THE LOT goes on, times 1103515245 and 12345, wrapped");
        for (int lot : new int[] {0, 1, 2, -1, -2, Integer.MAX_VALUE, Integer.MIN_VALUE, 65535, 65536, 0x7fff0000}) {
            HalfLadders x = told("tree 1 0 0;");
            x.lot(lot);
            x.year();
            java.math.BigInteger goesTo = java.math.BigInteger.valueOf(lot).multiply(java.math.BigInteger.valueOf(1103515245));
            due("lot after " + lot, x.lot(0), goesTo.add(java.math.BigInteger.valueOf(12345)).intValue());
        }
    }

    private static void anyLot() {
        sentence("THE LOT becomes v: what it was.");
        HalfLadders x = new HalfLadders();
        int was = 1;
        for (int v : new int[] {0, -1, 1, BAD, STATE, FULL, NONE, NO, Integer.MIN_VALUE, Integer.MAX_VALUE, Integer.MAX_VALUE}) {
            due("lot(" + v + ")", x.lot(v), was);
            was = v;
        }
        x.ends();
        x.climb(0, 1, 0);
        due("a day leaves it", x.lot(0), Integer.MAX_VALUE);
    }

    // ---- the best of a day

    private static void bests() {
        treesOfBest();
        noneTwice();
        nobodyAheadOfAll();
        treesByOrder();
        pairsByNumber();
        restOfTheDay();
        mostOfAllWays();
    }

    private static void treesOfBest() {
        sentence("BEST: the most (t = -1), the pair of a TREE (NONE: nobody). BAD.");
        edges("best(t)", -1, 2, HalfLadders::best, BAD);
        HalfLadders none = told(TWO);
        due("without trees", none.best(-1), 0);
        due("no tree 0", none.best(0), BAD);
        HalfLadders nobody = told(FIVE_TREES);
        due("without people", nobody.best(-1), 0);
        for (int t = 0; t <= 4; t++) {
            due("nobody, best(" + t + ")", nobody.best(t), NONE);
        }
        due("no tree 5", nobody.best(5), BAD);
        HalfLadders five = told(FOUR_LEFT + FOUR_RIGHT + FIVE_TREES);
        due("four pairs at five trees", five.best(-1), 36);
        int[] pairs = {NONE, 4, 15, 26, 37};
        for (int t = 0; t <= 4; t++) {
            due("best(" + t + ")", five.best(t), pairs[t]);
        }
    }

    private static void noneTwice() {
        sentence("of all ways in which pairs CLIMB TREES (as told, none twice) the most baskets");
        due("one pair, two trees", told(TWO + "tree 1 0 9;tree 1 0 9;").best(-1), 2);
        due("two pairs, one tree", told(TWO + TWO + "tree 1 0 9;").best(-1), 2);
        due("two pairs, two trees", told(TWO + TWO + "tree 1 0 9;tree 1 0 9;").best(-1), 4);
        due("one left, two rights, two trees", told(TWO + "right 1 1 1;tree 1 0 9;tree 1 0 9;").best(-1), 2);
        due("a quarrel", told(TWO + "quarrel 0 1;tree 1 0 9;").best(-1), 0);
        due("gaps", told("left 1 1 1;right 2 1 1;tree 1 0 9;").best(-1), 0);
        due("too high", told(TWO + "tree 2 0 9;").best(-1), 0);
        due("high enough", told("left 1 2 1;right 1 3 1;tree 2 0 9;").best(-1), 2);
        due("no baskets", told(TWO + "tree 1 0 0;").best(0), NONE);
        due("one basket", told(TWO + "tree 1 0 1;").best(-1), 1);
        due("not ripe", told(TWO + "tree 1 1 9;").best(-1), 0);
    }

    private static void nobodyAheadOfAll() {
        sentence("(10 times the left one and the right one; nobody is ahead of all)");
        HalfLadders x = told(TWO + "tree 1 0 2;tree 1 0 2;tree 1 0 1;");
        due("best(0) of two alike", x.best(0), NONE);
        due("best(1) of two alike", x.best(1), 1);
        due("best(2) of less", x.best(2), NONE);
        HalfLadders y = told(TWO + "tree 1 0 3;tree 1 0 2;tree 1 0 1;");
        due("as many of the first", y.best(0), NONE);
        due("as many of the second", y.best(1), 1);
        HalfLadders z = told(TWO + "tree 1 0 2;tree 1 0 1;");
        due("one more of the first", z.best(0), 1);
        due("one less of the second", z.best(1), NONE);
        due("70", told("right 1 1 1;" + "left 2 1 1;".repeat(6) + "left 1 1 1;tree 1 0 9;").best(0), 70);
        due("7", told("left 1 1 1;" + "left 2 1 1;".repeat(6) + "right 1 1 1;tree 1 0 9;").best(0), 7);
        due("10", told("right 1 1 1;left 1 1 1;tree 1 0 9;").best(0), 10);
    }

    private static void treesByOrder() {
        sentence("by TREES: the pair of TREE 0, of 1, ..");
        // two pairs at three trees: 01 and 23, or 03 and 21, bring 4; the last two trees have them, 01 ahead
        HalfLadders x = told(TWO + TWO + "tree 1 0 9;tree 1 0 9;tree 1 0 9;");
        int[] pairs = {NONE, 1, 23};
        for (int t = 0; t <= 2; t++) {
            due("best(" + t + ")", x.best(t), pairs[t]);
        }
        // tree 0 has 1 basket, so that there a pair of less pace would do as well: the first by number goes
        HalfLadders y = told(TWO + TWO + "tree 1 0 1;tree 1 0 9;");
        due("best(0)", y.best(0), 1);
        due("best(1)", y.best(1), 23);
        due("best(-1)", y.best(-1), 3);
        HalfLadders z = told("left 1 1 9;right 1 1 9;" + TWO + "tree 1 0 1;tree 1 0 99;");
        due("the slow to the less", z.best(0), 23);
        due("the quick to the more", z.best(1), 1);
        due("both", z.best(-1), 19);
    }

    private static void pairsByNumber() {
        sentence("of several the first by these");
        HalfLadders x = told("right 1 1 1;right 1 1 1;left 1 1 1;left 1 1 1;tree 1 0 9;");
        due("of 20, 21, 30 and 31", x.best(0), 20);
        HalfLadders y = told("right 1 1 1;right 1 1 1;left 1 1 1;left 1 1 1;tree 1 0 9;tree 1 0 9;");
        due("at tree 0", y.best(0), 20);
        due("at tree 1", y.best(1), 31);
        HalfLadders q = told("right 1 1 1;right 1 1 1;left 1 1 1;left 1 1 1;quarrel 2 0;tree 1 0 9;tree 1 0 9;");
        due("with a quarrel at tree 0", q.best(0), 21);
        due("with a quarrel at tree 1", q.best(1), 30);
        HalfLadders more = told("right 1 1 1;right 1 1 2;left 1 1 1;left 1 1 2;tree 1 0 9;");
        due("one more by 31", more.best(0), 31);
        due("the most", more.best(-1), 4);
        HalfLadders alike = told("right 1 1 1;right 1 1 2;left 1 1 2;left 1 1 1;tree 1 0 3;");
        due("20 brings all 3", alike.best(0), 20);
    }

    private static void restOfTheDay() {
        sentence("BEST of the rest of this DAY");
        HalfLadders x = told(TWO + TWO + "tree 1 0 9;tree 1 0 9;tree 1 0 3;");
        due("climb(0, 1, 1)", x.climb(0, 1, 1), 2);
        due("the rest", x.best(-1), 2);
        due("best(0)", x.best(0), NONE);
        due("best(1), climbed", x.best(1), NONE);
        due("best(2)", x.best(2), 23);
        due("climb(2, 3, 2)", x.climb(2, 3, 2), 2);
        due("nobody is left", x.best(-1), 0);
        due("best(0)", x.best(0), NONE);
        x.ends();
        due("the next DAY", x.best(-1), 4);
        due("best(0)", x.best(0), 1);
        due("best(1)", x.best(1), 23);
        due("best(2) of 1 left", x.best(2), NONE);
        HalfLadders three = told(TWO + TWO + "tree 1 0 9;");
        three.climb(0, 1, 0);
        due("the only tree is climbed", three.best(-1), 0);
    }

    private static void mostOfAllWays() {
        sentence("the most baskets");
        // the long pair alone can climb tree 0; taking it to tree 1, where it picks as much, would lose the short one
        HalfLadders x = told("left 1 9 2;right 1 9 2;left 2 1 1;right 2 1 1;tree 9 0 4;tree 1 0 4;");
        due("both", x.best(-1), 6);
        due("best(0)", x.best(0), 1);
        due("best(1)", x.best(1), 23);
        // 0 with 1 is the quickest pair, but keeps two others from climbing
        HalfLadders y = told("left 1 1 5;right 1 1 5;right 1 1 4;left 1 1 4;quarrel 3 2;tree 1 0 99;tree 1 0 99;");
        due("0 with 2, and 3 with 1", y.best(-1), 18);
        due("best(0)", y.best(0), 2);
        due("best(1)", y.best(1), 31);
        HalfLadders most = told("left 1 1 9;".repeat(4) + "right 1 1 9;".repeat(4) + "tree 1 0 99;".repeat(5));
        due("the most that there is", most.best(-1), 72);
    }

    // ---- seasons

    private static void seasons() {
        daysOfASeason();
        furtherDays();
        seasonsToDay30();
        eachAsBestTells();
        fallsInASeason();
        seasonsChangeNothing();
    }

    private static void daysOfASeason() {
        sentence("SEASON. BAD.");
        edges("season(n)", 1, 8, HalfLadders::season, BAD);
    }

    private static void furtherDays() {
        sentence("SEASON n: baskets of this DAY's rest and n less 1 further DAYS");
        for (int ripe = 0; ripe <= 9; ripe++) {
            HalfLadders x = told(TWO + "tree 1 " + ripe + " 99;");
            for (int n = 1; n <= 8; n++) {
                due("RIPE " + ripe + ", season(" + n + ")", x.season(n), 2 * Math.max(0, Math.min(4, n - ripe)));
            }
        }
        HalfLadders x = told(TWO + "tree 1 0 5;");
        x.climb(0, 1, 0);
        int[] due = {0, 2, 3, 3, 3, 3, 3, 3};
        for (int n = 1; n <= 8; n++) {
            due("after a climb, season(" + n + ")", x.season(n), due[n - 1]);
        }
        HalfLadders rest = told(TWO + TWO + "tree 1 0 9;tree 1 0 9;");
        rest.climb(0, 1, 0);
        due("the rest of this DAY", rest.season(1), 2);
        due("and the next", rest.season(2), 6);
    }

    private static void seasonsToDay30() {
        sentence("as many as are left with DAY 30");
        for (int day = 13; day <= 30; day++) {
            HalfLadders x = told(TWO + "tree 1 20 99;", day);
            for (int n = 1; n <= 8; n++) {
                int ripeDays = Math.max(0, Math.min(day + n - 1, 23) - Math.max(day, 20) + 1);
                due("on DAY " + day + ", season(" + n + ")", x.season(n), 2 * ripeDays);
            }
            due("DAY", x.now(0), day);
        }
    }

    private static void eachAsBestTells() {
        sentence("each as BEST tells");
        // of two trees alike BEST takes the last one, though the first falls by the next day
        HalfLadders x = told(TWO + "tree 1 0 2;tree 1 1 2;", 3);
        due("the first falls", x.season(2), 2);
        HalfLadders y = told(TWO + "tree 1 1 2;tree 1 0 2;", 3);
        due("the last would fall, but is climbed", y.season(2), 4);
        // BEST takes 3, and 2 fall; 5 would be more
        HalfLadders z = told("left 1 1 2;right 1 1 1;tree 1 1 3;tree 1 0 2;", 3);
        due("day by day", z.season(2), 3);
        due("this DAY", z.season(1), 3);
    }

    private static void fallsInASeason() {
        sentence("SEASON n: baskets of this DAY's rest and n less 1 further DAYS");
        HalfLadders x = told(TWO + "tree 1 0 99;tree 1 1 9;tree 1 4 3;");
        // 2 of tree 0 on DAY 0; of trees alike the last: of tree 1 on DAYS 1 to 3, of tree 2 on DAY 4, where 1 is left
        int[] due = {2, 4, 6, 8, 10, 11, 11, 11};
        for (int n = 1; n <= 8; n++) {
            due("season(" + n + ")", x.season(n), due[n - 1]);
        }
    }

    private static void seasonsChangeNothing() {
        sentence("SEASON n: baskets of this DAY's rest");
        refused("season(8)", HalfLaddersBoundaries::busy, x -> x.season(8), busy().season(8));
        refused("best(-1)", HalfLaddersBoundaries::busy, x -> x.best(-1), 0);
        HalfLadders x = busy();
        due("season(1)", x.season(1), 0);
        due("season(1), again", x.season(1), 0);
        due("season(8)", x.season(8), x.season(8));
    }

    // ---- sums

    private static void sums() {
        wholesOfSome();
        eachInOneAtMost();
        worthsAsked();
        leastTerms();
        worthsAreTheWhole();
    }

    private static void wholesOfSome() {
        sentence("WHOLE of some (bits; those that there are not are left out).");
        HalfLadders x = busy();
        // 0 and 1 pick 12, 0 and 3 pick 9, 2 and 1 pick 6; 2 and 3 are in a quarrel
        int[] wholes = {0, 0, 0, 12, 0, 0, 6, 12, 0, 9, 0, 12, 0, 9, 6, 15};
        for (int set = 0; set < 16; set++) {
            due("whole(" + set + ")", x.whole(set), wholes[set]);
            due("and 16", x.whole(set | 16), wholes[set]);
            due("and all that there are not", x.whole(set | -16), wholes[set]);
            due("and the least", x.whole(set | Integer.MIN_VALUE), wholes[set]);
        }
        HalfLadders eight = told(FOUR_LEFT + FOUR_RIGHT);
        due("0 and 7", eight.whole(129), 10);
        due("7 and 8", eight.whole(128 + 256), 0);
        due("0 and 8", eight.whole(1 + 256), 0);
        due("all", eight.whole(255), 40);
        due("-1", eight.whole(-1), 40);
        due("Integer.MAX_VALUE", eight.whole(Integer.MAX_VALUE), 40);
        due("256", eight.whole(256), 0);
        due("nobody", told("").whole(-1), 0);
    }

    private static void eachInOneAtMost() {
        sentence("WHOLE of some PEOPLE: the greatest sum of PICKS of pairs among them that FIT (each in one at most).");
        due("two lefts, one right", told("left 1 1 3;left 1 1 4;right 1 1 5;").whole(-1), 9);
        due("one left, two rights", told("left 1 1 3;right 1 1 4;right 1 1 5;").whole(-1), 8);
        due("two and two", told("left 1 1 3;left 1 1 4;right 1 1 5;right 1 1 6;").whole(-1), 18);
        // 9 and 9 pick 18, but both with others pick 20
        due("the greatest pair left", told("left 1 1 9;right 1 1 9;left 1 1 1;right 1 1 1;quarrel 2 3;").whole(-1), 20);
        due("gaps", told("left 1 1 9;right 2 1 9;").whole(-1), 0);
        due("a quarrel", told("left 1 1 9;right 1 1 9;quarrel 0 1;").whole(-1), 0);
        due("the most", told("left 1 1 9;".repeat(4) + "right 1 1 9;".repeat(4)).whole(-1), 72);
        HalfLadders x = told(TWO + "tree 1 0 9;");
        x.climb(0, 1, 0);
        due("days do not matter", x.whole(-1), 2);
    }

    private static void worthsAsked() {
        sentence("WORTH: upper (what = 0), lower number (1), in least terms. BAD.");
        edges("worth(p, 0)", 0, 3, (x, p) -> x.worth(p, 0), BAD);
        edges("worth(p, 1)", 0, 3, (x, p) -> x.worth(p, 1), BAD);
        edges("worth(0, what)", 0, 1, (x, what) -> x.worth(0, what), BAD);
        edges("worth(3, what)", 0, 1, (x, what) -> x.worth(3, what), BAD);
        HalfLadders x = told(FOUR_LEFT + FOUR_RIGHT);
        due("worth(7, 0)", x.worth(7, 0), 5);
        due("worth(7, 1)", x.worth(7, 1), 1);
        due("worth(8, 0)", x.worth(8, 0), BAD);
    }

    private static void worthIs(String text, int p, int upper, int lower) {
        HalfLadders x = told(text);
        due("upper of " + p + " of " + text, x.worth(p, 0), upper);
        due("lower of " + p + " of " + text, x.worth(p, 1), lower);
    }

    private static void leastTerms() {
        sentence("by how much WHOLE of those there grows by it as it comes, the mean: a fraction");
        worthIs("left 1 1 1;", 0, 0, 1);
        worthIs("left 1 1 1;right 2 1 1;", 1, 0, 1);
        worthIs(TWO, 0, 1, 1);
        worthIs(TWO, 1, 1, 1);
        worthIs("left 1 1 1;right 1 1 2;", 0, 3, 2);
        worthIs("left 1 1 9;right 1 1 9;", 1, 9, 1);
        worthIs("left 1 1 1;right 1 1 1;left 2 1 1;", 0, 1, 1);
        worthIs("left 1 1 1;right 1 1 1;left 2 1 1;", 2, 0, 1);
        // one right for two lefts: of six orders it brings 2 in the four in which it is not first
        worthIs("left 1 1 1;left 1 1 1;right 1 1 1;", 0, 1, 3);
        worthIs("left 1 1 1;left 1 1 1;right 1 1 1;", 2, 4, 3);
        worthIs("left 1 1 1;".repeat(7) + "right 1 1 1;", 7, 7, 4);
        worthIs("left 1 1 1;".repeat(7) + "right 1 1 1;", 0, 1, 28);
    }

    private static void worthsAreTheWhole() {
        sentence("over all orders in which all PEOPLE may come, one behind another");
        String[] texts = {"left 1 5 3;right 1 5 2;left 1 5 9;right 1 9 9;left 1 2 7;right 1 1 8;left 1 1 4;right 1 3 5;quarrel 2 3;",
            "left 1 1 1;left 1 1 2;left 1 1 4;left 1 1 8;left 1 1 9;right 1 1 3;right 1 1 5;right 1 1 7;", TWO + TWO + "left 1 1 7;", TWO, "left 1 1 1;"};
        for (String text : texts) {
            HalfLadders x = told(text);
            long sum = 0;
            for (int p = 0; p < x.count(0); p++) {
                int lower = x.worth(p, 1);
                due("40320 by the lower number", 40320 % Math.max(lower, 1), 0);
                due("least terms", java.math.BigInteger.valueOf(x.worth(p, 0)).gcd(java.math.BigInteger.valueOf(lower)).intValue(), 1);
                sum += 40320L / Math.max(lower, 1) * x.worth(p, 0);
            }
            due("all worths of " + text, sum, 40320L * x.whole(-1));
        }
    }

    // ---- pairs

    private static void pairs() {
        longestLadderFirst();
        greatestPaceThen();
        leastNumberThen();
        anybodyMoreThanNobody();
        whoIsAskedTakes();
        askedPeople();
        rests();
    }

    /** With whom each one is in the end; such likings leave but one rest. */
    private static void asks(String text, int... with) {
        HalfLadders x = told(text);
        for (int p = 0; p < with.length; p++) {
            due("asked(" + p + ") of " + text, x.asked(p), with[p]);
        }
        due("rests() of " + text, x.rests(), 1);
    }

    private static void longestLadderFirst() {
        sentence("One LIKES those that it FITS, the longest LADDER first");
        asks("left 1 9 1;right 1 4 9;right 1 5 1;", 2, NONE, 0);
        asks("left 1 9 1;right 1 5 1;right 1 4 9;", 1, 0, NONE);
        asks("right 1 9 1;left 1 4 9;left 1 5 1;", 2, NONE, 0);
        asks("right 1 9 1;left 1 5 1;left 1 4 9;", 1, 0, NONE);
        // a longer half makes no longer ladder than the own half: then the pace tells
        asks("left 1 5 1;right 1 9 1;right 1 5 2;", 2, NONE, 0);
        asks("left 1 5 1;right 1 9 2;right 1 5 1;", 1, 0, NONE);
    }

    private static void greatestPaceThen() {
        sentence("of several the greatest PACE of the other one");
        asks("left 1 1 1;right 1 1 4;right 1 1 5;", 2, NONE, 0);
        asks("left 1 1 1;right 1 1 5;right 1 1 4;", 1, 0, NONE);
        asks("right 1 1 1;left 1 1 8;left 1 1 9;", 2, NONE, 0);
        asks("right 1 1 1;left 1 1 9;left 1 1 8;", 1, 0, NONE);
        asks("left 1 1 1;right 1 1 1;left 2 1 1;left 2 1 1;left 2 1 1;left 2 1 1;left 2 1 1;right 1 1 2;", 7, NONE, NONE, NONE, NONE, NONE, NONE, 0);
    }

    private static void leastNumberThen() {
        sentence("then the least number");
        asks("left 1 1 1;right 1 1 1;right 1 1 1;", 1, 0, NONE);
        asks("right 1 1 1;left 1 1 1;left 1 1 1;", 1, 0, NONE);
        asks("right 1 1 1;right 1 1 1;left 1 1 1;", 2, NONE, 0);
        asks(FOUR_LEFT + FOUR_RIGHT, 4, 5, 6, 7, 0, 1, 2, 3);
        asks(FOUR_RIGHT + FOUR_LEFT, 4, 5, 6, 7, 0, 1, 2, 3);
    }

    private static void anybodyMoreThanNobody() {
        sentence("anybody more than nobody");
        asks("left 1 1 1;right 1 1 1;", 1, 0);
        asks("left 9 9 9;right 9 1 1;", 1, 0);
        asks("left 1 9 9;right 1 9 9;left 1 1 1;right 1 1 1;", 1, 0, 3, 2);
        asks("left 1 1 1;right 1 1 1;quarrel 0 1;", NONE, NONE);
        asks("left 1 1 1;right 2 1 1;", NONE, NONE);
        asks("left 1 1 1;left 1 1 1;", NONE, NONE);
    }

    private static void whoIsAskedTakes() {
        sentence("who is asked takes whom it LIKES best of all that asked by then (leaving another one, who goes on asking)");
        // 0 asks 2 first; 1 asks 2, too, who leaves 0; 0 goes on to 3
        asks("left 1 9 1;left 1 9 2;right 1 9 9;right 1 9 1;", 3, 2, 1, 0);
        asks("left 1 9 1;left 1 9 2;right 1 9 9;", NONE, 2, 1);
        asks("left 1 9 2;left 1 9 1;right 1 9 9;right 1 9 1;", 2, 3, 0, 1);
        // here the answers are others, if the right ones ask, too
        asks("left 1 2 1;left 1 4 3;right 1 2 2;left 1 3 4;right 1 2 2;right 1 3 3;right 1 1 4;quarrel 1 0;", 4, 2, 1, 5, 0, 3, NONE);
        // who is left three times over goes on to the last
        asks("left 1 9 1;left 1 9 2;left 1 9 3;left 1 9 4;right 1 9 9;right 1 9 8;right 1 9 7;right 1 9 6;", 7, 6, 5, 4, 3, 2, 1, 0);
        asks("left 1 9 1;left 1 9 2;left 1 9 3;left 1 9 4;right 1 9 9;right 1 9 8;right 1 9 7;", NONE, 6, 5, 4, 3, 2, 1);
        asks("left 1 9 1;left 1 9 2;left 1 9 3;right 1 9 9;right 1 9 8;right 1 9 7;right 1 9 6;", 5, 4, 3, 2, 1, 0, NONE);
    }

    private static void askedPeople() {
        sentence("ASKED: with whom one is; NONE. BAD.");
        edges("asked(p)", 0, 3, HalfLadders::asked, BAD);
        HalfLadders x = busy();
        int[] with = {3, 2, 1, 0};
        for (int p = 0; p <= 3; p++) {
            due("asked(" + p + ")", x.asked(p), with[p]);
        }
        due("asked(7)", told(FOUR_LEFT + FOUR_RIGHT).asked(7), 3);
        due("asked(8)", told(FOUR_LEFT + FOUR_RIGHT).asked(8), BAD);
    }

    private static void rests() {
        sentence("so that no two that FIT would both rather have one another than whom (or nobody) they have. RESTS: how many (1, if no two FIT).");
        due("nobody", told("").rests(), 1);
        due("one", told("left 1 1 1;").rests(), 1);
        due("of one side", told("left 1 1 1;left 1 1 1;").rests(), 1);
        due("gaps apart", told("left 1 1 1;right 2 1 1;").rests(), 1);
        due("a quarrel", told(TWO + "quarrel 0 1;").rests(), 1);
        due("two", told(TWO).rests(), 1);
        due("four", told(TWO + TWO).rests(), 1);
        due("eight", told(FOUR_LEFT + FOUR_RIGHT).rests(), 1);
        due("eight left", told(FOUR_LEFT + FOUR_LEFT).rests(), 1);
        due("all unlike", told("left 1 9 1;left 1 8 2;left 1 7 3;left 1 6 4;right 1 5 9;right 1 6 8;right 1 7 7;right 1 8 6;").rests(), 1);
        sentence("RESTS.");
        HalfLadders x = busy();
        due("a busy day", x.rests(), 1);
        x.ends();
        due("the next day", x.rests(), 1);
        x.clear();
        x.orchard();
        due("nobody is there any more", x.rests(), 1);
    }

    // ---- cuts

    private static void cuttings() {
        howManyPairsToCut();
        tooFewPairs();
        gapsApart();
        fewestOfAll();
    }

    private static void howManyPairsToCut() {
        sentence("CUTS k (1 .. 4)");
        HalfLadders x = told(FOUR_LEFT + FOUR_RIGHT);
        int[] cuts = {BAD, 0, 0, 0, 0, BAD};
        for (int k = 0; k <= 5; k++) {
            due("cuts(" + k + ")", x.cuts(k), cuts[k]);
        }
        sentence("CUTS; NONE. BAD.");
        edges("cuts(k)", 1, 4, HalfLadders::cuts, BAD);
    }

    private static void tooFewPairs() {
        sentence("of each pair by how much their GAPS are apart, added; NONE");
        for (int lefts = 0; lefts <= 4; lefts++) {
            for (int rights = 0; rights <= 4; rights++) {
                HalfLadders x = told("left 1 1 1;".repeat(lefts) + "right 2 1 1;".repeat(rights));
                for (int k = 1; k <= 4; k++) {
                    due(lefts + " and " + rights + ", cuts(" + k + ")", x.cuts(k), k <= Math.min(lefts, rights) ? k : NONE);
                }
            }
        }
        HalfLadders x = told("left 1 1 1;".repeat(5) + "right 9 1 1;".repeat(3));
        due("three of eight", x.cuts(3), 24);
        due("four of eight", x.cuts(4), NONE);
        due("eight of one side", told(FOUR_LEFT + FOUR_LEFT).cuts(1), NONE);
    }

    private static void gapsApart() {
        sentence("the fewest by which in each of k pairs (no QUARREL, unlike SIDES) both GAPS are alike");
        for (int a = 1; a <= 9; a++) {
            for (int b = 1; b <= 9; b++) {
                due(a + " and " + b, told("left " + a + " 1 1;right " + b + " 1 1;").cuts(1), Math.abs(a - b));
            }
        }
        due("of one side", told("left 1 1 1;left 1 1 1;right 3 1 1;").cuts(1), 2);
        due("a quarrel", told("left 1 1 1;right 1 1 1;right 9 1 1;quarrel 0 1;").cuts(1), 8);
        due("a quarrel, the other way", told("left 1 1 1;right 1 1 1;right 9 1 1;quarrel 1 0;").cuts(1), 8);
        due("all in a quarrel", told("left 1 1 1;right 1 1 1;quarrel 0 1;").cuts(1), NONE);
        due("a quarrel of one side", told("left 1 1 1;left 1 1 1;right 1 1 1;right 1 1 1;quarrel 0 1;").cuts(2), 0);
        due("a quarrel lets but one pair", told(TWO + TWO + "quarrel 0 1;quarrel 0 3;").cuts(1), 0);
        due("and no second", told(TWO + TWO + "quarrel 0 1;quarrel 0 3;").cuts(2), NONE);
    }

    private static void fewestOfAll() {
        sentence("CUTS k (1 .. 4): the fewest");
        // the nearest two are 4 and 3, but 1 with 3 and 4 with 9 is fewer in all
        HalfLadders x = told("left 1 1 1;left 4 1 1;right 3 1 1;right 9 1 1;");
        due("cuts(1)", x.cuts(1), 1);
        due("cuts(2)", x.cuts(2), 7);
        HalfLadders y = told("left 1 1 1;left 3 1 1;left 5 1 1;left 7 1 1;right 9 1 1;right 8 1 1;right 1 1 1;right 4 1 1;");
        int[] cuts = {0, 1, 2, 6};
        for (int k = 1; k <= 4; k++) {
            due("cuts(" + k + ")", y.cuts(k), cuts[k - 1]);
        }
        due("the most", told("left 1 1 1;".repeat(4) + "right 9 1 1;".repeat(4)).cuts(4), 32);
    }

    // ---- marks on a bark

    private static void barks() {
        marksTold();
        asLongAtLeast();
        withThatGap();
        firstOfThem();
    }

    private static void marksTold() {
        sentence("WHOSE: how many (what = 0), the first (1); NONE. BAD.");
        edges("whose(gap, 1, 0)", 1, 9, (x, gap) -> x.whose(gap, 1, 0), BAD);
        edges("whose(gap, 1, 1)", 1, 9, (x, gap) -> x.whose(gap, 1, 1), BAD);
        edges("whose(7, height, 0)", 1, 9, (x, height) -> x.whose(7, height, 0), BAD);
        edges("whose(7, height, 1)", 1, 9, (x, height) -> x.whose(7, height, 1), BAD);
        edges("whose(7, 1, what)", 0, 1, (x, what) -> x.whose(7, 1, what), BAD);
        edges("whose(1, 9, what)", 0, 1, (x, what) -> x.whose(1, 9, what), BAD);
        HalfLadders x = busy();
        due("how many", x.whose(7, 1, 0), 3);
        due("the first", x.whose(7, 1, 1), 1);
        due("none", x.whose(6, 1, 0), 0);
        due("no first", x.whose(6, 1, 1), NONE);
    }

    private static void asLongAtLeast() {
        sentence("pairs that FIT with that GAP and a LADDER as LONG at least: how many");
        for (int lesser = 1; lesser <= 9; lesser++) {
            HalfLadders x = told("left 2 " + lesser + " 1;right 2 9 1;right 2 " + lesser + " 1;");
            for (int height = 1; height <= 9; height++) {
                due("LONG " + lesser + ", whose(2, " + height + ", 0)", x.whose(2, height, 0), lesser >= height ? 2 : 0);
                due("LONG " + lesser + ", whose(2, " + height + ", 1)", x.whose(2, height, 1), lesser >= height ? 1 : NONE);
            }
        }
        HalfLadders x = told("left 2 4 1;right 2 5 1;left 2 6 1;right 2 7 1;");
        int[] many = {4, 4, 4, 4, 2, 1, 0, 0, 0};
        int[] first = {1, 1, 1, 1, 21, 23, NONE, NONE, NONE};
        for (int height = 1; height <= 9; height++) {
            due("whose(2, " + height + ", 0)", x.whose(2, height, 0), many[height - 1]);
            due("whose(2, " + height + ", 1)", x.whose(2, height, 1), first[height - 1]);
        }
        HalfLadders most = told(FOUR_LEFT + FOUR_RIGHT);
        due("the most", most.whose(5, 5, 0), 16);
        due("the first of the most", most.whose(5, 5, 1), 4);
        due("none of the most", most.whose(5, 6, 0), 0);
        due("no first of the most", most.whose(5, 6, 1), NONE);
    }

    private static void withThatGap() {
        sentence("WHOSE by marks with a GAP on a bark, at a height (1 .. 9)");
        for (int own = 1; own <= 9; own++) {
            HalfLadders x = told("left " + own + " 1 1;right " + own + " 1 1;");
            for (int gap = 1; gap <= 9; gap++) {
                due("GAP " + own + ", whose(" + gap + ", 1, 0)", x.whose(gap, 1, 0), gap == own ? 1 : 0);
                due("GAP " + own + ", whose(" + gap + ", 1, 1)", x.whose(gap, 1, 1), gap == own ? 1 : NONE);
            }
        }
        due("a quarrel", told(TWO + "quarrel 0 1;").whose(1, 1, 0), 0);
        due("of one side", told("left 1 1 1;left 1 1 1;").whose(1, 1, 0), 0);
        due("two gaps", told("left 1 1 1;right 2 1 1;").whose(1, 1, 0), 0);
    }

    private static void firstOfThem() {
        sentence("the first (10 times the left one and the right one).");
        due("of 20, 21, 30, 31", told("right 1 1 1;right 1 1 1;left 1 1 1;left 1 1 1;").whose(1, 1, 1), 20);
        due("of 21, 30, 31", told("right 1 1 1;right 1 1 1;left 1 1 1;left 1 1 1;quarrel 0 2;").whose(1, 1, 1), 21);
        due("of 10 and 12", told("right 1 1 1;left 1 1 1;right 1 1 1;").whose(1, 1, 1), 10);
        due("of 1 and 21", told("left 1 1 1;right 1 1 1;left 1 1 1;").whose(1, 1, 1), 1);
        due("70", told("right 1 1 1;" + "left 2 1 1;".repeat(6) + "left 1 1 1;").whose(1, 1, 1), 70);
        due("67", told("left 2 1 1;".repeat(6) + "left 1 1 1;right 1 1 1;").whose(1, 1, 1), 67);
    }

    // ---- kinds

    private static void kinds() {
        kindsTold();
        marksOfKinds();
        marksBelow0();
        howManyItFits();
        dayOfIron();
        traceOfKinds();
        traceAtFirst();
    }

    private static void kindsTold() {
        sentence("MARK. NO: BAD.");
        edges("mark(kind, 0)", 0, 5, (x, kind) -> x.mark(kind, 0), NO);
        edges("mark(kind, 3)", 0, 5, (x, kind) -> x.mark(kind, 3), NO);
        edges("mark(0, p)", 0, 3, (x, p) -> x.mark(0, p), NO);
        edges("mark(5, p)", 0, 3, (x, p) -> x.mark(5, p), NO);
        due("mark(0, 7)", told(FOUR_LEFT + FOUR_RIGHT).mark(0, 7), 5);
        due("mark(0, 8)", told(FOUR_LEFT + FOUR_RIGHT).mark(0, 8), NO);
        due("nobody", told("").mark(0, 0), NO);
    }

    private static void marksOfKinds() {
        sentence("HALF its LONG (1). WORN up less GAP (10). DOUBLE up times 2 (100). HINGED up, and PACE (1000).");
        for (int gap : new int[] {1, 9}) {
            for (int length : new int[] {1, 9}) {
                for (int pace : new int[] {1, 9}) {
                    HalfLadders x = told("left " + gap + " " + length + " " + pace + ";", 2);
                    int[] marks = {length, length - gap, 2 * length, length - gap + pace, 2 * length, length + 2};
                    for (int kind = 0; kind <= 5; kind++) {
                        due("kind " + kind + " of " + gap + " " + length + " " + pace, x.mark(kind, 0), marks[kind]);
                    }
                }
            }
        }
    }

    private static void marksBelow0() {
        sentence("What none is, where a number may be below 0.");
        HalfLadders x = told("left 9 1 1;left 2 1 1;left 3 1 1;left 1 1 1;left 9 1 9;");
        due("the least", x.mark(1, 0), -8);
        due("as BAD", x.mark(1, 1), BAD);
        due("as STATE", x.mark(1, 2), STATE);
        due("0", x.mark(1, 3), 0);
        due("hinged", x.mark(3, 0), -7);
        due("hinged, above 0", x.mark(3, 4), 1);
        due("all were asked", x.trace(), 4 * 11 + 2 * 1011);
    }

    private static void howManyItFits() {
        sentence("BORROWED up, and how many it FITS (10000).");
        due("none", told("left 1 1 1;").mark(4, 0), 2);
        due("one", told(TWO).mark(4, 0), 3);
        due("one, of the other", told(TWO).mark(4, 1), 3);
        due("a quarrel", told(TWO + "quarrel 0 1;").mark(4, 0), 2);
        due("four", told(FOUR_LEFT + FOUR_RIGHT).mark(4, 0), 14);
        due("four, of the last", told(FOUR_LEFT + FOUR_RIGHT).mark(4, 7), 14);
        due("seven", told("left 1 1 1;".repeat(7) + "right 1 9 1;").mark(4, 7), 25);
        due("one of eight", told("left 1 1 1;".repeat(7) + "right 1 9 1;").mark(4, 6), 3);
        due("gaps", told("left 1 1 1;right 2 1 1;").mark(4, 0), 2);
    }

    private static void dayOfIron() {
        sentence("IRON up, and DAY (100000).");
        HalfLadders x = told("left 9 4 9;");
        for (int day = 0; day <= 30; day++) {
            due("on DAY " + day, x.mark(5, 0), 4 + day);
            x.ends();
        }
        x.year();
        due("in a new YEAR", x.mark(5, 0), 4);
    }

    private static void traceOfKinds() {
        sentence("THE TRACE (0 at first; of all calls ever, together)");
        int[] bodies = {1, 11, 101, 1011, 10101, 100001};
        sentence("1 WORN, 2 DOUBLE, 5 IRON (each under HALF); 3 HINGED (under WORN); 4 BORROWED (under DOUBLE).");
        for (int kind = 0; kind <= 5; kind++) {
            HalfLadders x = told(PEOPLE);
            for (int times = 1; times <= 3; times++) {
                x.mark(kind, 0);
                due("kind " + kind + ", asked " + times + " times", x.trace(), (long) times * bodies[kind]);
            }
        }
        sentence("as often as mark() asks that body; \"up\" is what the KIND above does, asked once");
        HalfLadders all = told(PEOPLE);
        long sum = 0;
        for (int kind = 5; kind >= 0; kind--) {
            all.mark(kind, 3);
            sum += bodies[kind];
            due("down to kind " + kind, all.trace(), sum);
        }
        all.mark(6, 0);
        all.mark(-1, 0);
        all.mark(0, 4);
        all.mark(5, -1);
        due("refused", all.trace(), sum);
    }

    private static void traceAtFirst() {
        sentence("THE TRACE.");
        HalfLadders x = new HalfLadders();
        due("at first", x.trace(), 0);
        busy(x);
        due("on a busy day", x.trace(), 11);
        x.best(-1);
        x.season(8);
        x.keep(1);
        x.back(0);
        x.year();
        x.clear();
        due("no other call adds to it", x.trace(), 11);
        due("of another object", new HalfLadders().trace(), 0);
    }

    // ---- images

    private static void images() {
        imagesTold();
        noneWasKept();
        allOfNow();
        nothingElse();
        keptAgain();
        imagesByThemselves();
    }

    private static void imagesTold() {
        sentence("An IMAGE is kept: the DAY. BAD.");
        edges("keep(image)", 0, 1, HalfLadders::keep, BAD);
        for (int day = 0; day <= 30; day++) {
            HalfLadders x = told(PEOPLE, day);
            due("keep(0) on DAY " + day, x.keep(0), day);
            due("keep(1) on DAY " + day, x.keep(1), day);
            x.year();
            due("back(0) to DAY " + day, x.back(0), day);
            due("now(0)", x.now(0), day);
        }
        sentence("All of that becomes as an IMAGE has it: the DAY. BAD; STATE: none was kept.");
        for (int image : new int[] {-1, 2, Integer.MIN_VALUE, -2, 3, 32, Integer.MAX_VALUE}) {
            refused("back(" + image + ")", HalfLaddersBoundaries::busy, x -> x.back(image), BAD);
            refused("back(" + image + ") of a new one", x -> { }, x -> x.back(image), BAD);
        }
    }

    private static void noneWasKept() {
        sentence("STATE: none was kept");
        refused("back(1), but image 0 was kept", HalfLaddersBoundaries::busy, x -> x.back(1), STATE);
        refused("back(0) of a new one", x -> { }, x -> x.back(0), STATE);
        HalfLadders x = told(PEOPLE, 3);
        due("back(0)", x.back(0), STATE);
        due("keep(2)", x.keep(2), BAD);
        due("keep(-1)", x.keep(-1), BAD);
        due("a refused keep keeps nothing", x.back(0), STATE);
        due("nor there", x.back(1), STATE);
        due("keep(1)", x.keep(1), 3);
        due("image 1 alone", x.back(0), STATE);
        due("back(1)", x.back(1), 3);
        due("back(1), again", x.back(1), 3);
    }

    private static void allOfNow() {
        sentence("IMAGES 0, 1 keep NOW (DAY, who did climb, which TREES, BASKETS left, picked, fallen, THE LOT)");
        for (int image = 0; image <= 1; image++) {
            HalfLadders x = told(PEOPLE + "tree 6 1 70;tree 1 0 9;", 4);
            x.climb(0, 1, 0);
            x.lot(99);
            x.keep(image);
            x.ends();
            x.ends();
            x.climb(0, 3, 0);
            x.year();
            due("back", x.back(image), 4);
            int[] now = {4, 12, 9, 58, 3};
            for (int what = 0; what <= 4; what++) {
                due("now(" + what + ")", x.now(what), now[what]);
            }
            due("tree(0, 3)", x.tree(0, 3), 58);
            due("tree(0, 4)", x.tree(0, 4), 1);
            due("tree(1, 3)", x.tree(1, 3), 0);
            due("tree(1, 4)", x.tree(1, 4), 0);
            due("half(1, 4)", x.half(1, 4), 1);
            due("half(3, 4)", x.half(3, 4), 0);
            due("lot", x.lot(0), 99);
            due("a climb that can't be", x.climb(2, 1, 0), STATE);
            due("the DAY ends", x.ends(), 58);
        }
    }

    private static void nothingElse() {
        sentence("nothing else");
        HalfLadders x = busy();
        x.keep(1);
        x.mark(5, 0);
        typed(x, " 4");
        due("back(1)", x.back(1), 1);
        due("the text", x.count(3), 12);
        due("the trace", x.trace(), 100012);
        due("the other image", x.back(0), 1);
        due("is as it was", x.now(1), 0);
        due("this one, too", x.back(1), 1);
        due("is as it was", x.now(1), 12);
        x.clear();
        x.back(0);
        due("an empty text stays empty", x.count(3), 0);
    }

    private static void keptAgain() {
        sentence("An IMAGE is kept: the DAY.");
        HalfLadders x = told(PEOPLE);
        due("keep(0)", x.keep(0), 0);
        x.ends();
        due("keep(0), again", x.keep(0), 1);
        x.ends();
        due("the newer one", x.back(0), 1);
        x.ends();
        x.ends();
        due("what came later does not reach it", x.back(0), 1);
        due("now(0)", x.now(0), 1);
    }

    private static void imagesByThemselves() {
        sentence("IMAGES 0, 1 keep NOW");
        HalfLadders x = told(TWO + "tree 1 0 9;");
        x.lot(10);
        x.keep(0);
        x.climb(0, 1, 0);
        x.lot(11);
        x.keep(1);
        due("back(0)", x.back(0), 0);
        due("left", x.tree(0, 3), 9);
        due("lot", x.lot(5), 10);
        due("back(1)", x.back(1), 0);
        due("left", x.tree(0, 3), 7);
        due("lot", x.lot(5), 11);
        x.ends();
        due("a climb", x.climb(0, 1, 0), 2);
        due("back(1), again", x.back(1), 0);
        due("left", x.tree(0, 3), 7);
        due("did climb", x.now(4), 3);
        HalfLadders other = told(TWO);
        due("of another object", other.back(0), STATE);
    }

    // ---- which refusal

    private static void refusals() {
        badAheadOfState();
        badAheadOfFull();
    }

    private static void badAheadOfState() {
        sentence("Refused, and nothing changes, the first of these: BAD (a number is not as told, or there is no such thing), STATE (as told), FULL.");
        // 0 did climb already, and tree 0 was climbed: each of these calls could be STATE, too
        int[][] bads = {{0, 0, 0}, {0, 4, 0}, {-1, 0, 0}, {0, 1, 3}, {0, 1, -1}, {2, 3, 3}, {0, 2, -1}, {4, 5, 6}, {-1, -1, -1}};
        for (int[] c : bads) {
            refused("climb(" + c[0] + ", " + c[1] + ", " + c[2] + ")", HalfLaddersBoundaries::busy, x -> x.climb(c[0], c[1], c[2]), BAD);
        }
        due("STATE", busy().climb(0, 1, 0), STATE);
        due("back(2), where none is kept", new HalfLadders().back(2), BAD);
        due("back(-1), where none is kept", new HalfLadders().back(-1), BAD);
        HalfLadders last = told(PEOPLE + TREES, 30);
        due("climb with no such tree on DAY 30", last.climb(0, 1, 3), BAD);
        due("climb on DAY 30", last.climb(0, 1, 0), STATE);
        due("season(9) on DAY 30", last.season(9), BAD);
        due("season(0) on DAY 30", last.season(0), BAD);
        due("season(8) on DAY 30", last.season(8), 0);
        due("half(4, 5)", last.half(4, 5), BAD);
        due("worth(4, 2)", last.worth(4, 2), BAD);
        due("whose(0, 10, 2)", last.whose(0, 10, 2), BAD);
        due("mark(6, 4)", last.mark(6, 4), NO);
    }

    private static void badAheadOfFull() {
        sentence("the first of these: BAD");
        String full = " ".repeat(300);
        for (int n : new int[] {0, 9, -1, Integer.MIN_VALUE, Integer.MAX_VALUE, 301}) {
            refused("type(v, " + n + ") of a full text", x -> typed(x, full), x -> x.type(-1L, n), BAD);
        }
        refused("type(v, 1) of a full text", x -> typed(x, full), x -> x.type(-1L, 1), FULL);
        refused("type(v, 8) of a full text", x -> typed(x, full), x -> x.type(-1L, 8), FULL);
        HalfLadders x = new HalfLadders();
        typed(x, full);
        x.type(59, 1);
        due("a refused byte does not come", x.orchard(), 0);
        due("then there is room", x.type(59, 1), 1);
    }
}
