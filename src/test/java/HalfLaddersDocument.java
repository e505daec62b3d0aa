import java.io.IOException;
import java.lang.reflect.Constructor;
import java.lang.reflect.Field;
import java.lang.reflect.Method;
import java.lang.reflect.Modifier;
import java.math.BigInteger;
import java.nio.file.Files;
import java.nio.file.Path;
import java.util.Arrays;
import java.util.Set;
import java.util.TreeSet;
import java.util.regex.Matcher;
import java.util.regex.Pattern;

/**
 * The document from its first line: its face, read from DOC.md itself, and what it says of several calls together. No
 * answer is reckoned here by itself: on many orchards the calls are compared with one another.
 */
public final class HalfLaddersDocument {
    private static final int BAD = -1, STATE = -2, NONE = -9;
    private static final int ORCHARDS = 3000;
    private static final int[] BODIES = {1, 11, 101, 1011, 10101, 100001};

    private static int wrong = 0;
    private static String sentence = "";
    /** What is told, and by that how many people and trees: no object is asked for more than 512 calls. */
    private static String orchard = "";
    private static int people = 0;
    private static int trees = 0;
    /** A sequence of numbers that is the same in each run. */
    private static long seed = 20261120;

    public static void main(String[] args) throws IOException, ReflectiveOperationException {
        String document = Files.readString(Path.of("../shared/DOC.md"));
        face(document);
        parts(document, Files.readString(Path.of("src/main/java/HalfLadders.java")));
        for (int i = 0; i < ORCHARDS; i++) {
            orchard = anOrchard();
            people = countOf("left") + countOf("right");
            trees = countOf("tree");
            people();
            sums();
            asking();
            cutting();
            barks();
            ripeDays();
            days();
            mostOfADay();
            seasons();
            years();
            kinds();
            images();
        }
        System.out.println(wrong == 0 ? "the document holds on " + ORCHARDS + " orchards" : wrong + " things do not hold");
        if (wrong != 0) {
            System.exit(1);
        }
    }

    // ---- how it is looked

    private static void sentence(String words) {
        sentence = words;
    }

    private static void due(String call, long got, long want) {
        holds(call + " answered " + got + ", due is " + want, got == want);
    }

    private static void holds(String what, boolean does) {
        if (!does && wrong++ < 50) {
            System.out.println(sentence + "\n    does not hold: " + what + " with \"" + orchard + "\"");
        }
    }

    private static int any(int least, int greatest) {
        seed = seed * 6364136223846793005L + 1442695040888963407L;
        return least + (int) Long.remainderUnsigned(seed >>> 24, greatest - least + 1);
    }

    /** Up to eight people, most of whom fit somebody, and up to five trees, most of them ripe soon. */
    private static String anOrchard() {
        StringBuilder s = new StringBuilder();
        int halves = any(0, 8);
        int gaps = any(1, 3);
        for (int p = 0; p < halves; p++) {
            s.append(any(0, 1) == 0 ? "left" : "right").append(any(1, gaps) * any(1, 2)).append(' ').append(any(1, 9));
            s.append(' ').append(any(1, 9)).append(';');
        }
        for (int i = any(-3, 6); i > 0 && halves > 1; i--) {
            int a = any(0, halves - 1);
            s.append("quarrel").append(a).append(' ').append((a + any(1, halves - 1)) % halves).append(';');
        }
        for (int t = any(0, 5); t > 0; t--) {
            s.append("tree").append(any(1, 6)).append(' ').append(any(0, any(0, 4) == 0 ? 20 : 4)).append(' ');
            s.append(any(0, any(0, 1) == 0 ? 99 : 15)).append(';');
        }
        return s.toString();
    }

    private static HalfLadders told() {
        HalfLadders x = new HalfLadders();
        for (int i = 0; i < orchard.length(); i += 8) {
            String part = orchard.substring(i, Math.min(i + 8, orchard.length()));
            long v = 0;
            for (int j = 0; j < part.length(); j++) {
                v = v << 8 | part.charAt(j);
            }
            x.type(v, part.length());
        }
        due("orchard()", x.orchard(), orchard.chars().filter(c -> c == ';').count());
        return x;
    }

    private static int countOf(String word) {
        int many = 0;
        for (int at = orchard.indexOf(word); at >= 0; at = orchard.indexOf(word, at + 1)) {
            many++;
        }
        return many;
    }

    // ---- the public face

    private static void face(String document) throws ReflectiveOperationException {
        sentence("## The public face");
        int begin = document.indexOf("```java");
        int end = document.indexOf("```", begin + 7);
        holds("there is a face", begin >= 0 && end > begin);
        String told = document.substring(begin, end);
        constantsOfFace(told);
        methodsOfFace(told);
        holds("public final class", told.contains("public final class HalfLadders {")
            && HalfLadders.class.getModifiers() == (Modifier.PUBLIC | Modifier.FINAL)
            && HalfLadders.class.getSuperclass() == Object.class && HalfLadders.class.getInterfaces().length == 0);
        Constructor<?>[] constructors = HalfLadders.class.getDeclaredConstructors();
        holds("one constructor", told.contains("public HalfLadders();") && constructors.length == 1
            && constructors[0].getModifiers() == Modifier.PUBLIC && constructors[0].getParameterCount() == 0);
    }

    private static void constantsOfFace(String told) throws ReflectiveOperationException {
        int constants = 0;
        Matcher line = Pattern.compile("public static final int ([^;]*);").matcher(told);
        while (line.find()) {
            for (String constant : line.group(1).split(", ")) {
                String[] nameAndNumber = constant.split(" = ");
                Field f = HalfLadders.class.getDeclaredField(nameAndNumber[0]);
                holds(constant, f.getModifiers() == (Modifier.PUBLIC | Modifier.STATIC | Modifier.FINAL)
                    && f.getType() == int.class && f.getInt(null) == Integer.parseInt(nameAndNumber[1]));
                constants++;
            }
        }
        for (Field f : HalfLadders.class.getDeclaredFields()) {
            constants -= Modifier.isPrivate(f.getModifiers()) ? 0 : 1;
        }
        due("constants that only one of the two has", constants, 0);
    }

    private static void methodsOfFace(String told) {
        Set<String> due = new TreeSet<>();
        Matcher line = Pattern.compile("public (int|long) (\\w+)\\(([^)]*)\\);").matcher(told);
        while (line.find()) {
            due.add(line.group(1) + " " + line.group(2) + "(" + line.group(3).replaceAll(" \\w+(?=,|$)", "") + ")");
        }
        Set<String> has = new TreeSet<>();
        for (Method m : HalfLadders.class.getDeclaredMethods()) {
            if (!Modifier.isPrivate(m.getModifiers())) {
                String types = Arrays.toString(m.getParameterTypes());
                has.add(m.getReturnType() + " " + m.getName() + "(" + types.substring(1, types.length() - 1) + ")");
                due(m + "'s modifiers", m.getModifiers(), Modifier.PUBLIC);
            }
        }
        due("methods of the face", due.size(), 24);
        holds("the methods are " + due + ", not " + has, due.equals(has));
    }

    private static void parts(String document, String source) {
        sentence("the interface says:");
        int named = 0;
        Matcher part = Pattern.compile("Ahead of the calls (.*?) the interface says: ---- (.*)\\.").matcher(document);
        while (part.find()) {
            int at = source.indexOf("    // ---- " + part.group(2) + "\n");
            holds("---- " + part.group(2), at >= 0);
            for (String name : part.group(1).replace("`", "").split(", ")) {
                Matcher next = Pattern.compile("(?m)^    public (?:int|long) (\\w+)\\(").matcher(source);
                boolean found = at >= 0 && next.find(at);
                holds(name + " stands there", found && next.group(1).equals(name));
                at = found ? next.end() : at;
                named++;
            }
        }
        due("calls behind these", named, 24);
    }

    // ---- people

    private static void people() {
        HalfLadders x = told();
        sentence("people who own halves with rungs on one side, gaps and lengths, who will not with whom");
        due("people", x.count(0), people);
        due("trees", x.count(1), trees);
        holds("no more quarrels than were told", x.count(2) <= countOf("quarrel"));
        sentence("Two may be in QUARREL.");
        int quarrels = 0;
        for (int a = 0; a < people; a++) {
            for (int b = a + 1; b < people; b++) {
                boolean quarrel = orchard.contains("quarrel" + a + " " + b + ";") || orchard.contains("quarrel" + b + " " + a + ";");
                quarrels += quarrel ? 1 : 0;
                boolean fit = x.half(a, 0) != x.half(b, 0) && x.half(a, 1) == x.half(b, 1) && !quarrel;
                due("fit(" + a + ", " + b + ")", x.fit(a, b), fit ? 1 : 0);
                due("fit(" + b + ", " + a + ")", x.fit(b, a), fit ? 1 : 0);
            }
        }
        due("quarrels", x.count(2), quarrels);
    }

    // ---- the best of all

    private static void sums() {
        HalfLadders x = told();
        sentence("what each half is worth, so that all worths are the whole");
        BigInteger upper = BigInteger.ZERO;
        BigInteger lower = BigInteger.ONE;
        for (int p = 0; p < people; p++) {
            BigInteger u = BigInteger.valueOf(x.worth(p, 0));
            BigInteger l = BigInteger.valueOf(x.worth(p, 1));
            holds("worth " + u + " by " + l + " is in least terms", l.signum() > 0 && u.gcd(l).equals(BigInteger.ONE));
            upper = upper.multiply(l).add(u.multiply(lower));
            lower = lower.multiply(l);
        }
        holds("all worths are the whole", upper.equals(lower.multiply(BigInteger.valueOf(x.whole(-1)))));
        sentence("WORTH of one:");
        for (int p = 0; p < people; p++) {
            boolean fitsNobody = fitsOf(x, p) == 0;
            holds(p + " is worth something, if it fits somebody", x.worth(p, 0) > 0 != fitsNobody);
            holds(p + " is worth 0 by 1, if it fits nobody", x.worth(p, 1) == 1 || !fitsNobody);
        }
        int everybody = (1 << people) - 1;
        for (int i = 0; i < 20; i++) {
            int some = any(0, 255);
            int others = everybody & ~some;
            holds("two parts pick no more than the whole", x.whole(some) + x.whole(others) <= x.whole(everybody));
            due("with those that there are not", x.whole(some | ~everybody), x.whole(some & everybody));
        }
    }

    private static int fitsOf(HalfLadders x, int p) {
        int fits = 0;
        for (int other = 0; other < people; other++) {
            fits += x.fit(p, other) == 1 ? 1 : 0;
        }
        return fits;
    }

    // ---- pairs

    private static void asking() {
        HalfLadders x = told();
        int[][] halves = new int[people][4];
        int[] with = new int[people];
        for (int p = 0; p < people; p++) {
            with[p] = x.asked(p);
            for (int what = 0; what <= 3; what++) {
                halves[p][what] = x.half(p, what);
            }
        }
        sentence("with whom one is in the end");
        for (int p = 0; p < people; p++) {
            boolean isPair = with[p] >= 0 && with[p] < people && with[with[p]] == p && x.fit(p, with[p]) == 1;
            holds(p + " is with nobody, or with one that it fits and that is with it", with[p] == NONE || isPair);
        }
        sentence("pairs that nobody would rather change, by asking, and how many such there are");
        boolean noneFit = true;
        for (int a = 0; a < people; a++) {
            for (int b = a + 1; b < people; b++) {
                boolean fit = x.fit(a, b) == 1;
                noneFit &= !fit;
                holds(a + " and " + b + " would rather have one another",
                    !fit || !rather(halves, a, b, with[a]) || !rather(halves, b, a, with[b]));
            }
        }
        holds("there is one rest at least", x.rests() >= 1 && (x.rests() == 1 || !noneFit));
        sentence("ASKED: each left one asks those it LIKES, one behind another");
        for (int p = 0; p < people; p++) {
            boolean somebodyIsAlone = false;
            for (int other = 0; other < people; other++) {
                somebodyIsAlone |= x.fit(p, other) == 1 && with[other] == NONE;
            }
            holds(p + " is alone, and so is one that it fits", with[p] != NONE || !somebodyIsAlone);
        }
        sentence("A REST: pairs that FIT");
        due("asked(p) with nobody there", x.asked(people), BAD);
    }

    private static boolean rather(int[][] halves, int p, int other, int has) {
        if (has < 0) {
            return true;
        }
        int longer = Math.min(halves[p][2], halves[other][2]) - Math.min(halves[p][2], halves[has][2]);
        int quicker = halves[other][3] - halves[has][3];
        return longer != 0 ? longer > 0 : quicker != 0 ? quicker > 0 : other < has;
    }

    private static void cutting() {
        HalfLadders x = told();
        sentence("the fewest cuts by which more halves fit");
        int before = 0;
        for (int k = 1; k <= 4; k++) {
            int cuts = x.cuts(k);
            holds("cuts(" + k + ") is no fewer than " + before, before == NONE ? cuts == NONE : cuts == NONE || cuts >= before);
            before = cuts;
        }
        // with one PACE for all the whole tells how many pairs fit at once
        String asTold = orchard;
        orchard = orchard.replaceAll("(left|right)(\\d) (\\d) \\d;", "$1$2 $3 1;");
        HalfLadders y = told();
        for (int k = 1; k <= 4; k++) {
            due("cuts(" + k + ")", y.cuts(k), x.cuts(k));
            holds("no cuts for " + k + " pairs, if so many fit", y.cuts(k) == 0 == y.whole(-1) >= 2 * k);
        }
        orchard = asTold;
    }

    private static void barks() {
        HalfLadders x = told();
        sentence("whose it can have been by marks on a bark");
        int pairs = 0;
        int fits = 0;
        for (int gap = 1; gap <= 9; gap++) {
            pairs += x.whose(gap, 1, 0);
            for (int height = 2; height <= 9; height++) {
                int first = x.whose(gap, height, 1);
                holds("no more are longer", x.whose(gap, height, 0) <= x.whose(gap, height - 1, 0));
                holds("a first, if there are some", first >= 0 == x.whose(gap, height, 0) > 0 && (first >= 0 || first == NONE));
                holds("it fits", first < 0 || x.fit(first / 10, first % 10) == 1 && x.half(first / 10, 0) == 0);
            }
        }
        for (int p = 0; p < people; p++) {
            fits += x.half(p, 0) == 0 ? fitsOf(x, p) : 0;
        }
        due("pairs of all gaps", pairs, fits);
    }

    // ---- days

    private static void ripeDays() {
        HalfLadders x = told();
        sentence("trees that are ripe four days, told by a text");
        int[][] told = new int[trees][3];
        for (int t = 0; t < trees; t++) {
            for (int what = 0; what <= 2; what++) {
                told[t][what] = x.tree(t, what);
            }
        }
        int longest = longestLadder(x);
        for (int day = 0; day <= 30; day++) {
            boolean bringsSome = false;
            for (int t = 0; t < trees; t++) {
                int behind = day - told[t][1];
                due("tree(" + t + ", 3) on DAY " + day, x.tree(t, 3), behind <= 3 ? told[t][2] : 0);
                bringsSome |= behind >= 0 && behind <= 3 && told[t][2] > 0 && told[t][0] <= longest;
            }
            holds("DAY " + day + " brings some: " + bringsSome, x.best(-1) > 0 == bringsSome);
            x.ends();
        }
    }

    /** 0, if no two fit. */
    private static int longestLadder(HalfLadders x) {
        int longest = 0;
        for (int gap = 1; gap <= 9; gap++) {
            while (longest < 9 && x.whose(gap, longest + 1, 0) > 0) {
                longest++;
            }
        }
        return longest;
    }

    /** Climbs that can't be and such that can, until about so many were tried. */
    private static int someClimbs(HalfLadders x, int tries) {
        int baskets = 0;
        for (int i = 0; i < tries && people > 0; i++) {
            baskets += Math.max(x.climb(any(0, people - 1), any(0, people - 1), any(0, 4)), 0);
        }
        return baskets;
    }

    private static void days() {
        HalfLadders x = told();
        sentence("days on which pairs climb, baskets, what falls");
        int all = x.now(3);
        int picked = 0;
        int fallen = 0;
        for (int day = 0; day <= 30; day++) {
            due("day", x.now(0), day);
            picked += someClimbs(x, day < 8 ? 6 : 1);
            due("picked", x.now(1), picked);
            due("an even number of people did climb", Integer.bitCount(x.now(4)) % 2, 0);
            sentence("A DAY ends:");
            int falls = x.ends();
            due("ends() on DAY " + day, day == 30 ? falls : STATE, STATE);
            fallen += Math.max(falls, 0);
            due("fallen", x.now(2), fallen);
            due("picked, fallen and left", x.now(1) + x.now(2) + x.now(3), all);
        }
        due("left in the end", x.now(3), 0);
    }

    private static void mostOfADay() {
        HalfLadders x = told();
        sentence("the most that a day can bring");
        for (int day = any(0, 3); day > 0; day--) {
            x.ends();
        }
        someClimbs(x, 2);
        int most = x.best(-1);
        x.keep(0);
        int carried = 0;
        for (int t = 0; t < trees; t++) {
            carried += climbedAsBest(x, t, x.best(t));
        }
        due("the pairs of all trees pick", carried, most);
        due("the rest of the day then", x.best(-1), 0);
        for (int way = 0; way < 5; way++) {
            x.back(0);
            holds("no other way brings more", someClimbs(x, 8) <= most);
            holds("nor with the best behind it", x.now(1) + x.best(-1) <= carried + pickedAtFirst(x));
        }
    }

    private static int pickedAtFirst(HalfLadders x) {
        x.keep(1);
        x.back(0);
        int picked = x.now(1);
        x.back(1);
        return picked;
    }

    private static int climbedAsBest(HalfLadders x, int t, int pair) {
        if (pair == NONE) {
            return 0;
        }
        int baskets = x.climb(pair / 10, pair % 10, t);
        holds("climb of " + pair + " on tree " + t + " can be", baskets > 0);
        return Math.max(baskets, 0);
    }

    private static void seasons() {
        HalfLadders x = told();
        sentence("a season day by day so");
        someClimbs(x, any(0, 2));
        int[] seasons = new int[9];
        for (int n = 1; n <= 8; n++) {
            seasons[n] = x.season(n);
        }
        int baskets = 0;
        for (int n = 1; n <= 8; n++) {
            baskets += aDayAsBest(x);
            sentence("(1 .. 8,");
            due("season(" + n + ")", seasons[n], baskets);
            x.ends();
        }
    }

    private static int aDayAsBest(HalfLadders x) {
        int[] pairs = new int[trees];
        for (int t = 0; t < pairs.length; t++) {
            pairs[t] = x.best(t);
        }
        int baskets = 0;
        for (int t = 0; t < pairs.length; t++) {
            baskets += climbedAsBest(x, t, pairs[t]);
        }
        return baskets;
    }

    // ---- years, kinds and images

    private static void years() {
        HalfLadders x = told();
        HalfLadders y = told();
        sentence("at first as told");
        for (int t = 0; t < trees; t++) {
            due("tree(" + t + ", 3)", x.tree(t, 3), x.tree(t, 2));
        }
        sentence("years of blossoms");
        int lot = any(-1000000, 1000000);
        x.lot(lot);
        y.lot(lot);
        someClimbs(y, 4);
        for (int year = 0; year < 3; year++) {
            for (int day = any(0, 6); day > 0; day--) {
                y.ends();
            }
            int all = x.year();
            due("a year hangs on the lot alone", y.year(), all);
            due("baskets on all trees", x.now(3), all);
            for (int what : new int[] {0, 1, 2, 4}) {
                due("now(" + what + ")", y.now(what), 0);
            }
            for (int t = 0; t < trees; t++) {
                due("tree(" + t + ", 3)", y.tree(t, 3), x.tree(t, 3));
                holds("no tree bears more than twice what was told", x.tree(t, 3) <= 2 * x.tree(t, 2));
            }
            someClimbs(y, 4);
        }
        due("the lot", y.lot(0), x.lot(0));
    }

    private static void kinds() {
        HalfLadders x = told();
        sentence("halves by kinds");
        int day = any(0, 3);
        for (int i = 0; i < day; i++) {
            x.ends();
        }
        sentence("MARK of a half as if of a KIND (numbers in brackets come to THE TRACE");
        long trace = 0;
        for (int p = 0; p < people; p++) {
            int[] marks = new int[6];
            for (int kind = 0; kind <= 5; kind++) {
                marks[kind] = x.mark(kind, p);
                trace += BODIES[kind];
                due("trace behind kind " + kind, x.trace(), trace);
            }
            sentence("KINDS of halves are over one another: 0 HALF");
            due("half", marks[0], x.half(p, 2));
            due("worn", marks[1], marks[0] - x.half(p, 1));
            due("double", marks[2], 2 * marks[0]);
            due("hinged", marks[3], marks[1] + x.half(p, 3));
            due("borrowed", marks[4], marks[2] + fitsOf(x, p));
            due("iron", marks[5], marks[0] + day);
        }
    }

    /** What is told of people, too, is as with the twin, so that it is seen that an image brings nothing else back. */
    private static void images() {
        HalfLadders x = told();
        HalfLadders twin = told();
        sentence("images.");
        for (HalfLadders each : new HalfLadders[] {x, twin}) {
            long before = seed;
            each.lot(5);
            each.ends();
            someClimbs(each, 5);
            seed = before;
        }
        x.keep(1);
        x.lot(any(0, 9));
        someClimbs(x, 5);
        x.ends();
        someClimbs(x, 5);
        x.year();
        due("back(1)", x.back(1), 1);
        for (int what = 0; what <= 4; what++) {
            due("now(" + what + ")", x.now(what), twin.now(what));
        }
        for (int t = -1; t < trees; t++) {
            due("best(" + t + ")", x.best(t), twin.best(t));
            due("tree(" + t + ", 3)", x.tree(t, 3), twin.tree(t, 3));
            due("tree(" + t + ", 4)", x.tree(t, 4), twin.tree(t, 4));
        }
        for (int n = 1; n <= 8; n++) {
            due("season(" + n + ")", x.season(n), twin.season(n));
        }
        due("ends()", x.ends(), twin.ends());
        due("year()", x.year(), twin.year());
        due("lot(0)", x.lot(0), twin.lot(0));
    }
}
