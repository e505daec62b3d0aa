/** Each promise by itself: ordinary numbers, the edges that the document names, and wrong numbers. */
public final class HalfLaddersPromises {
    private static int wrong = 0;
    private static int promise = 0;

    private static void due(String call, long got, long want) {
        if (got != want) {
            wrong++;
            System.out.println("promise " + promise + ": " + call + " answered " + got + ", due is " + want);
        }
    }

    private static void typed(HalfLadders x, String text) {
        for (int i = 0; i < text.length(); i++) {
            x.type(text.charAt(i), 1);
        }
    }

    private static HalfLadders told(String text) {
        HalfLadders x = new HalfLadders();
        typed(x, text);
        int items = (int) text.chars().filter(c -> c == ';').count();
        due("orchard() of " + text, x.orchard(), items);
        return x;
    }

    private static void fault(String text, int place) {
        HalfLadders x = told("left 7 7 7;tree 7 7 7;");
        x.lot(77);
        typed(x, text);
        due("orchard() of " + text, x.orchard(), -10 - place);
        due("its length stays", x.count(3), text.length());
        due("people stay", x.count(0), 1);
        due("halves stay", x.half(0, 1), 7);
        due("trees stay", x.tree(0, 3), 7);
        due("it may be asked again", x.orchard(), -10 - place);
    }

    public static void main(String[] args) {
        newObject();
        type();
        clear();
        orchard();
        orchardFaults();
        half();
        tree();
        fit();
        climb();
        ends();
        now();
        year();
        lot();
        best();
        bestOfSeveral();
        season();
        whole();
        worth();
        asked();
        rests();
        cuts();
        whose();
        mark();
        images();
        count();
        trace();
        wrongNumbers();
        System.out.println(wrong == 0 ? "all promises are kept" : wrong + " answers are not as due");
        if (wrong != 0) {
            System.exit(1);
        }
    }

    private static void newObject() {
        promise = 1;
        HalfLadders x = new HalfLadders();
        for (int what = 0; what <= 3; what++) {
            due("count " + what, x.count(what), 0);
        }
        for (int what = 0; what <= 4; what++) {
            due("now " + what, x.now(what), 0);
        }
        due("trace", x.trace(), 0);
        due("rests", x.rests(), 1);
        due("whole", x.whole(-1), 0);
        due("best", x.best(-1), 0);
        due("cuts", x.cuts(1), HalfLadders.NONE);
        due("lot", x.lot(1), 1);
        HalfLadders other = told("left 1 1 1;");
        due("another object is by itself", x.count(0) + other.count(0), 1);
    }

    private static void type() {
        promise = 2;
        HalfLadders x = new HalfLadders();
        due("n 0", x.type(59, 0), HalfLadders.BAD);
        due("n 9", x.type(59, 9), HalfLadders.BAD);
        due("n below 0", x.type(59, Integer.MIN_VALUE), HalfLadders.BAD);
        due("nothing came", x.count(3), 0);
        due("the lowest alone", x.type(0x6162636465666768L, 1), 1);
        due("h is no word", x.orchard(), -10);
        x.clear();
        due("four", x.type(0x3939396C656674L, 4), 4);
        due("the highest first", x.orchard(), -14);
        due("on", x.type(' ' << 8 | '1', 2), 6);
        due("left 1", x.orchard(), -16);
        x.clear();
        for (int i = 1; i <= 37; i++) {
            due("eight", x.type(-1L, 8), 8 * i);
        }
        due("five too many", x.type(-1L, 5), HalfLadders.FULL);
        due("BAD is ahead of FULL", x.type(-1L, 9), HalfLadders.BAD);
        due("four more", x.type(-1L, 4), 300);
        due("one too many", x.type(-1L, 1), HalfLadders.FULL);
        due("as many as before", x.count(3), 300);
    }

    private static void clear() {
        promise = 3;
        HalfLadders x = new HalfLadders();
        due("nothing", x.clear(), 0);
        typed(x, "left 1 1 1;");
        due("eleven", x.clear(), 11);
        due("nothing again", x.clear(), 0);
        due("no items", x.orchard(), 0);
        typed(x, "\u00c8");
        x.clear();
        typed(x, "left 1 1 1;");
        due("as if new", x.orchard(), 1);
    }

    private static void orchard() {
        promise = 4;
        HalfLadders x = told("left 1 2 3;right 4 5 6;quarrel 0 1;quarrel 1 0;quarrel 0 1;tree 1 0 0;");
        due("text is empty", x.count(3), 0);
        due("people", x.count(0), 2);
        due("quarrels are one", x.count(2), 1);
        due("trees", x.count(1), 1);
        due("blanks alone", told("   ").count(0), 0);
        due("blanks everywhere", told("  left  1  2  3  ;  tree  9  20  99  ;  ").tree(0, 1), 20);
        due("no blanks", told("left1 2 3;right4 5 6;quarrel0 1;tree9 20 99;").half(1, 3), 6);
        x = told("left 1 1 1;");
        x.keep(0);
        x.lot(5);
        x.mark(0, 0);
        x.ends();
        due("nobody", x.orchard(), 0);
        due("nobody there", x.count(0), 0);
        due("an image is gone", x.back(0), HalfLadders.STATE);
        due("the trace stays", x.trace(), 1);
        due("the day is as at first", x.now(0), 0);
        due("the lot stays", x.lot(1), 5);
        x = told("left 1 1 5;right 1 1 4;tree 1 0 50;tree 1 0 20;");
        due("climb", x.climb(0, 1, 0), 9);
        for (int i = 0; i < 4; i++) {
            x.ends();
        }
        typed(x, "left 1 1 5;right 1 1 4;tree 1 0 50;");
        x.orchard();
        due("nothing is picked", x.now(1), 0);
        due("nothing fell", x.now(2), 0);
        due("all is left", x.now(3), 50);
        due("no quarrel stays", told("left 1 1 1;right 1 1 1;quarrel 0 1;").count(2), 1);
        typed(x, "left 1 1 1;left 1 1 1;quarrel 0 1;");
        x.orchard();
        typed(x, "left 1 1 1;left 1 1 1;");
        x.orchard();
        due("quarrels are told anew", x.count(2), 0);
        String full = "left 1 1 1;".repeat(7) + "right 1 1 1;" + "tree 1 0 1;".repeat(5);
        due("a full text", told("left 1 1 1;right 1 1 1;" + "quarrel 0 1;".repeat(23) + " ").count(2), 1);
        x = told(full);
        due("eight", x.count(0), 8);
        due("five", x.count(1), 5);
    }

    private static void orchardFaults() {
        fault("left", 4);
        fault("left ", 5);
        fault("left 1 1 1", 10);
        fault("left 1 1 1  ", 12);
        fault("left 1 1 1; tree 1 20 99", 24);
        fault("quarrel", 7);
        fault("lef", 0);
        fault("leftright 1 1 1;", 0);
        fault("Left 1 1 1;", 0);
        fault("leftz 1 1 1;", 0);
        fault("aleft 1 1 1;", 0);
        fault("left 1 1 1;zright 1 1 1;", 11);
        fault("l eft 1 1 1;", 0);
        fault("left\t1 1 1;", 4);
        fault("left 0 1 1;", 5);
        fault("left 10 1 1;", 5);
        fault("left 1 10 1;", 7);
        fault("left 1 1 10;", 9);
        fault("left 1 1 0;", 9);
        fault("left 1 1 1 1;", 11);
        fault("left 111;", 5);
        fault("left 1 1 1;;", 11);
        fault("  5", 2);
        fault("left 1 1 1; 5", 12);
        fault("left -1 1 1;", 5);
        fault("left 1 1;", 8);
        fault("left left 1 1;", 5);
        fault("left 1 1 1 right 1 1 1;", 11);
        fault("tree 1 0 100;", 9);
        fault("tree 1 21 0;", 7);
        fault("tree 1 05 0;", 7);
        fault("tree 1 00 0;", 7);
        fault("tree 0 0 0;", 5);
        fault("tree 10 0 0;", 5);
        fault("tree 1 0 0\u0000;", 10);
        fault("quarrel 0 1;", 8);
        fault("left 1 1 1;quarrel 1 0;", 19);
        fault("left 1 1 1;quarrel 0 0;", 21);
        fault("left 1 1 1;quarrel 0 1;left 1 1 1;", 21);
        fault("left 1 1 1;right 1 1 1;quarrel 0 01;", 33);
        fault(";".repeat(300), 0);
        fault("left 1 1 1;" + ";".repeat(289), 11);
        fault("quarrel 0 1;".repeat(25), 8);
        fault("9".repeat(300), 0);
        fault("left " + "0".repeat(295), 5);
        fault("a".repeat(300), 0);
        fault("left 1 1 1" + " ".repeat(290), 300);
        fault("left 1 1 1;".repeat(8) + "left", 88);
        fault("left 1 1 1;".repeat(8) + "right 0", 88);
        fault("tree 1 0 1;".repeat(5) + "tree", 55);
        fault("left 1 1 1;".repeat(8) + "quarrel 0 8;", 98);
    }

    private static void half() {
        promise = 5;
        HalfLadders x = told("left 1 2 3;right 1 8 7;tree 1 0 9;");
        for (int what = 0; what <= 4; what++) {
            due("half 0 " + what, x.half(0, what), new int[] {0, 1, 2, 3, 0}[what]);
            due("half 1 " + what, x.half(1, what), new int[] {1, 1, 8, 7, 0}[what]);
        }
        due("what 5", x.half(0, 5), HalfLadders.BAD);
        due("what -1", x.half(0, -1), HalfLadders.BAD);
        due("half 2", x.half(2, 0), HalfLadders.BAD);
        due("half -1", x.half(-1, 0), HalfLadders.BAD);
        x.climb(1, 0, 0);
        due("did climb", x.half(0, 4), 1);
        due("did climb, too", x.half(1, 4), 1);
        x.ends();
        due("not on this day", x.half(0, 4) + x.half(1, 4), 0);
    }

    private static void tree() {
        promise = 6;
        HalfLadders x = told("left 1 9 3;right 1 8 7;tree 8 0 99;tree 2 5 6;");
        x.climb(0, 1, 0);
        for (int what = 0; what <= 4; what++) {
            due("tree 0 " + what, x.tree(0, what), new int[] {8, 0, 99, 89, 1}[what]);
            due("tree 1 " + what, x.tree(1, what), new int[] {2, 5, 6, 6, 0}[what]);
        }
        due("what 5", x.tree(0, 5), HalfLadders.BAD);
        due("what -1", x.tree(0, -1), HalfLadders.BAD);
        due("tree 2", x.tree(2, 0), HalfLadders.BAD);
        due("tree -1", x.tree(-1, 0), HalfLadders.BAD);
        x.ends();
        due("not on this day", x.tree(0, 4), 0);
        due("what is left stays", x.tree(0, 3), 89);
    }

    private static void fit() {
        promise = 7;
        HalfLadders x = told("left 1 9 3;right 1 8 7;right 2 9 9;right 1 1 1;quarrel 3 0;left 1 1 1;");
        due("fit", x.fit(0, 1), 1);
        due("the other way", x.fit(1, 0), 1);
        due("gaps", x.fit(0, 2), 0);
        due("quarrel", x.fit(0, 3), 0);
        due("quarrel, the other way", x.fit(3, 0), 0);
        due("sides", x.fit(0, 4), 0);
        due("another left one", x.fit(4, 3), 1);
        due("one and the same", x.fit(0, 0), HalfLadders.BAD);
        due("none such", x.fit(0, 5), HalfLadders.BAD);
        due("none such ahead", x.fit(5, 0), HalfLadders.BAD);
        due("below 0", x.fit(-1, 0), HalfLadders.BAD);
    }

    private static void climb() {
        promise = 8;
        String people = "left 1 5 3;right 1 4 2;left 1 9 1;right 1 9 1;left 2 9 9;";
        HalfLadders x = told(people + "tree 4 1 50;tree 5 0 5;tree 1 0 0;tree 1 0 1;tree 1 0 9;");
        due("one and the same", x.climb(0, 0, 0), HalfLadders.BAD);
        due("none such", x.climb(0, 5, 0), HalfLadders.BAD);
        due("none such ahead", x.climb(-1, 0, 0), HalfLadders.BAD);
        due("no tree", x.climb(0, 1, 5), HalfLadders.BAD);
        due("no tree below", x.climb(0, 1, -1), HalfLadders.BAD);
        due("BAD is ahead of STATE", x.climb(0, 2, 5), HalfLadders.BAD);
        due("not ripe yet", x.climb(0, 1, 0), HalfLadders.STATE);
        due("too high", x.climb(0, 1, 1), HalfLadders.STATE);
        due("no baskets", x.climb(0, 1, 2), HalfLadders.STATE);
        due("do not fit", x.climb(4, 1, 3), HalfLadders.STATE);
        due("of one side", x.climb(0, 2, 3), HalfLadders.STATE);
        due("nothing changed", x.now(1) + x.now(4), 0);
        due("what is left", x.climb(1, 0, 3), 1);
        due("did climb", x.climb(0, 3, 1), HalfLadders.STATE);
        due("the other did climb", x.climb(2, 1, 1), HalfLadders.STATE);
        due("that tree was climbed", x.climb(2, 3, 3), HalfLadders.STATE);
        due("both paces", x.climb(2, 3, 1), 2);
        due("picked", x.now(1), 3);
        x.ends();
        due("as high as long, ripe", x.climb(0, 1, 0), 5);
        due("climbed already", x.climb(2, 3, 0), HalfLadders.STATE);
        due("emptied", x.climb(2, 3, 3), HalfLadders.STATE);
        x.ends();
        x.ends();
        due("the last day of one", x.climb(2, 3, 1), 2);
        x.ends();
        due("the last day of another", x.climb(2, 3, 0), 2);
        due("ripe no more", x.climb(0, 1, 4), HalfLadders.STATE);
        x.ends();
        due("all are ripe no more", x.climb(0, 1, 0), HalfLadders.STATE);
    }

    private static void ends() {
        promise = 9;
        HalfLadders x = told("left 1 5 3;right 1 4 2;tree 1 0 50;tree 1 1 20;tree 1 20 7;");
        due("climb", x.climb(0, 1, 0), 5);
        due("day 0", x.ends(), 0);
        due("day 1", x.ends(), 0);
        due("day 2", x.ends(), 0);
        due("day 3", x.ends(), 45);
        due("day 4", x.ends(), 20);
        due("fallen", x.now(2), 65);
        due("left", x.now(3), 7);
        for (int day = 5; day < 23; day++) {
            due("day " + day, x.ends(), 0);
        }
        due("day 23", x.ends(), 7);
        for (int day = 24; day < 30; day++) {
            due("day " + day, x.ends(), 0);
        }
        due("day 30", x.ends(), HalfLadders.STATE);
        due("it stays", x.now(0), 30);
        due("fallen in all", x.now(2), 72);
    }

    private static void now() {
        promise = 10;
        HalfLadders x = told("left 1 5 3;left 9 9 9;right 1 4 2;tree 1 0 50;tree 1 1 20;");
        x.climb(2, 0, 0);
        due("day", x.now(0), 0);
        due("picked", x.now(1), 5);
        due("fallen", x.now(2), 0);
        due("left", x.now(3), 65);
        due("bits", x.now(4), 5);
        due("what 5", x.now(5), HalfLadders.BAD);
        due("what -1", x.now(-1), HalfLadders.BAD);
        x.ends();
        due("next day", x.now(0), 1);
        due("nobody", x.now(4), 0);
        due("picked stays", x.now(1), 5);
    }

    private static void year() {
        promise = 11;
        HalfLadders x = told("left 1 5 3;right 1 4 2;tree 1 0 99;tree 1 0 0;tree 1 0 99;tree 1 0 5;");
        x.climb(0, 1, 0);
        for (int i = 0; i < 5; i++) {
            x.ends();
        }
        int lot = 1;
        int all = 0;
        int[] due = new int[4];
        int[] baskets = {99, 0, 99, 5};
        for (int t = 0; t < 4; t++) {
            lot = lot * 1103515245 + 12345;
            due[t] = baskets[t] * ((lot >>> 16) % 21) / 10;
            all += due[t];
        }
        due("the first draw is 16838 of 65536, left over 17", due[0], 168);
        due("year", x.year(), all);
        for (int t = 0; t < 4; t++) {
            due("tree " + t, x.tree(t, 3), due[t]);
            due("as told, tree " + t, x.tree(t, 2), baskets[t]);
        }
        due("day", x.now(0), 0);
        due("picked", x.now(1), 0);
        due("fallen", x.now(2), 0);
        due("lot", x.lot(1), lot);
        x.climb(0, 1, 0);
        due("a climb", x.now(4), 3);
        due("of what was told, not of what is left", x.year(), all);
        due("nobody did climb", x.now(4), 0);
        due("no tree was climbed", x.tree(0, 4), 0);
        x.lot(-1);
        lot = -1 * 1103515245 + 12345;
        x.year();
        due("upper bits of a number below 0", x.tree(0, 3), 99 * ((lot >>> 16) % 21) / 10);
        due("no trees", new HalfLadders().year(), 0);
    }

    private static void lot() {
        promise = 12;
        HalfLadders x = new HalfLadders();
        due("at first", x.lot(Integer.MIN_VALUE), 1);
        due("least", x.lot(-5), Integer.MIN_VALUE);
        x.orchard();
        due("stays", x.lot(0), -5);
        x.year();
        due("without trees it does not go on", x.lot(0), 0);
    }

    private static void best() {
        promise = 13;
        HalfLadders x = told("left 1 5 3;right 1 5 3;left 1 9 1;right 1 9 1;tree 6 0 9;tree 2 0 9;tree 1 9 9;tree 1 0 0;");
        // 23 alone can climb tree 0 (2 baskets), and 01 then brings 6 of tree 1
        due("most", x.best(-1), 8);
        due("tree 0", x.best(0), 23);
        due("tree 1", x.best(1), 1);
        due("not ripe", x.best(2), HalfLadders.NONE);
        due("no baskets", x.best(3), HalfLadders.NONE);
        due("no tree", x.best(4), HalfLadders.BAD);
        due("below -1", x.best(-2), HalfLadders.BAD);
        due("nothing is picked", x.now(1) + x.now(4), 0);
        x.climb(0, 3, 1);
        due("rest of the day", x.best(-1), 0);
        due("none is longer", x.best(0), HalfLadders.NONE);
        x.ends();
        due("what is left counts", x.best(-1), 7);
        due("5 are left", x.tree(1, 3), 5);
        x = told("left 1 9 9;right 1 9 9;tree 1 0 5;tree 1 0 18;tree 1 0 18;");
        due("one pair, one tree", x.best(-1), 18);
        due("not the least tree", x.best(0), HalfLadders.NONE);
        due("nobody is ahead: the last tree", x.best(1), HalfLadders.NONE);
        due("has it", x.best(2), 1);
    }

    private static void bestOfSeveral() {
        HalfLadders x = told("left 1 1 1;left 1 1 1;right 1 1 1;right 1 1 1;tree 1 0 9;tree 1 0 9;tree 1 0 9;");
        due("two pairs", x.best(-1), 4);
        due("nobody at tree 0", x.best(0), HalfLadders.NONE);
        due("least at tree 1", x.best(1), 2);
        due("the others at tree 2", x.best(2), 13);
        // the left one with the greater number: of 21 and 30 the first is 21
        x = told("right 1 1 1;right 1 1 1;left 1 1 1;left 1 1 1;tree 1 0 9;tree 1 0 9;");
        due("left one first", x.best(0), 20);
        due("left one first of the others", x.best(1), 31);
        // little is left: who picks it may as well be the slower pair
        x = told("left 1 1 9;left 1 1 1;right 1 1 1;tree 1 0 2;tree 1 0 99;");
        due("the quicker to where more is", x.best(-1), 10);
        due("nobody", x.best(0), HalfLadders.NONE);
        due("it", x.best(1), 2);
    }

    private static void season() {
        promise = 14;
        HalfLadders x = told("left 1 5 3;right 1 5 2;tree 1 0 12;tree 1 2 9;tree 1 3 99;");
        int[] due = {5, 10, 15, 20, 25, 30, 35, 35};
        // days 0 .. 6: 5 of tree 0, 5 of it, then 5 of tree 1, and 5 of tree 2 until day 6
        for (int n = 1; n <= 8; n++) {
            due("season " + n, x.season(n), due[n - 1]);
        }
        due("season 0", x.season(0), HalfLadders.BAD);
        due("season 9", x.season(9), HalfLadders.BAD);
        due("nothing changes", x.now(0) + x.now(1) + x.now(2) + x.now(4), 0);
        due("nothing is gone", x.now(3), 120);
        x.climb(0, 1, 0);
        due("rest of the day", x.season(1), 0);
        due("and the next", x.season(2), 5);
        x = told("left 1 5 3;right 1 5 2;tree 1 20 99;");
        for (int i = 0; i < 21; i++) {
            x.ends();
        }
        due("of 4 days 3 are left", x.season(8), 15);
        for (int i = 0; i < 9; i++) {
            x.ends();
        }
        due("day 30", x.season(8), 0);
        // on day 3 BEST takes the 6 that are new and lets the 5 fall: 11 would be better
        x = told("left 1 9 5;right 1 9 5;tree 1 0 5;tree 1 3 6;");
        for (int i = 0; i < 3; i++) {
            x.ends();
        }
        due("day by day", x.season(2), 6);
        due("on day 3", x.season(1), 6);
    }

    private static void whole() {
        promise = 15;
        HalfLadders x = told("left 1 5 3;right 1 5 2;left 1 5 9;right 1 5 4;left 1 5 1;right 2 5 9;");
        due("all", x.whole(63), 18);
        due("those that are not there", x.whole(-1), 18);
        due("beyond", x.whole(64 + 128 + 3), 5);
        due("nobody", x.whole(0), 0);
        due("one", x.whole(1), 0);
        due("a pair", x.whole(1 | 2), 5);
        due("of two the greater", x.whole(1 | 2 | 4), 11);
        due("of two the greater, left", x.whole(1 | 2 | 8), 7);
        due("gaps", x.whole(1 | 32), 0);
        due("a quarrel", told("left 1 5 3;right 1 5 2;quarrel 0 1;").whole(3), 0);
        due("after a climb, too", climbed().whole(3), 5);
    }

    private static HalfLadders climbed() {
        HalfLadders x = told("left 1 5 3;right 1 5 2;tree 1 0 9;");
        x.climb(0, 1, 0);
        return x;
    }

    private static void worth() {
        promise = 16;
        HalfLadders x = told("left 1 5 3;right 1 5 2;");
        due("a half", x.worth(0, 0), 5);
        due("of it", x.worth(0, 1), 2);
        // 01 brings 5, 21 brings 11: orders of 0, 1, 2
        x = told("left 1 5 3;right 1 5 2;left 1 5 9;");
        due("of 0", x.worth(0, 0), 5);
        due("of 0 in least terms", x.worth(0, 1), 6);
        due("of 1", x.worth(1, 0), 19);
        due("of 1 in least terms", x.worth(1, 1), 3);
        due("of 2", x.worth(2, 0), 23);
        due("of 2 in least terms", x.worth(2, 1), 6);
        due("nothing", told("left 1 1 1;").worth(0, 0), 0);
        due("of one", told("left 1 1 1;").worth(0, 1), 1);
        due("what 2", x.worth(0, 2), HalfLadders.BAD);
        due("what -1", x.worth(0, -1), HalfLadders.BAD);
        due("none such", x.worth(3, 0), HalfLadders.BAD);
        due("below 0", x.worth(-1, 0), HalfLadders.BAD);
        x = told("left 1 5 3;right 1 5 2;left 1 5 9;right 1 9 9;left 1 2 7;right 1 1 8;left 1 1 4;right 1 3 5;quarrel 2 3;");
        long sum = 0;
        for (int p = 0; p < 8; p++) {
            due("a divisor of all orders", 40320 % x.worth(p, 1), 0);
            sum += (long) x.worth(p, 0) * (40320 / x.worth(p, 1));
        }
        due("all worths are the whole", sum, 40320L * x.whole(-1));
    }

    private static void asked() {
        promise = 17;
        HalfLadders x = told("left 1 5 3;right 1 9 2;left 1 9 1;right 1 5 8;left 2 9 9;");
        // 0 likes 3 (pace 8) more than 1; 2 likes 1 (ladder 9); 3 likes 0 (pace 3) more than 2
        due("0", x.asked(0), 3);
        due("3", x.asked(3), 0);
        due("2", x.asked(2), 1);
        due("1", x.asked(1), 2);
        due("nobody", x.asked(4), HalfLadders.NONE);
        due("none such", x.asked(5), HalfLadders.BAD);
        due("below 0", x.asked(-1), HalfLadders.BAD);
        x = told("left 1 9 1;left 1 9 1;right 1 9 1;right 1 9 1;");
        due("least number", x.asked(0), 2);
        due("the next", x.asked(1), 3);
        x = told("left 1 9 1;left 1 9 2;right 1 9 1;right 1 8 9;");
        due("leaves another one", x.asked(0), 3);
        due("is taken", x.asked(1), 2);
        x = told("left 1 9 1;left 1 9 2;right 1 9 1;");
        due("left and with nobody", x.asked(0), HalfLadders.NONE);
        due("its other one", x.asked(2), 1);
    }

    private static void rests() {
        promise = 18;
        due("no two fit", told("left 1 5 3;right 2 5 2;").rests(), 1);
        due("a pair", told("left 1 5 3;right 1 5 2;").rests(), 1);
        due("two pairs", told("left 1 5 3;right 1 5 2;left 1 5 3;right 1 5 2;").rests(), 1);
        due("four pairs", told("left 1 5 3;right 1 5 2;left 1 5 9;right 1 9 9;left 1 2 7;right 1 1 8;left 1 1 4;right 1 3 5;quarrel 2 3;").rests(), 1);
    }

    private static void cuts() {
        promise = 19;
        HalfLadders x = told("left 1 5 3;right 4 5 2;left 6 5 9;right 9 9 9;");
        due("one pair", x.cuts(1), 2);
        due("two pairs", x.cuts(2), 6);
        due("three", x.cuts(3), HalfLadders.NONE);
        due("four", x.cuts(4), HalfLadders.NONE);
        due("five", x.cuts(5), HalfLadders.BAD);
        due("none", x.cuts(0), HalfLadders.BAD);
        x = told("left 1 5 3;right 1 5 2;left 9 5 9;quarrel 0 1;");
        due("a quarrel", x.cuts(1), 8);
        due("a right one too few", x.cuts(2), HalfLadders.NONE);
        due("of one side", told("left 1 5 3;left 1 5 2;").cuts(1), HalfLadders.NONE);
        x = told("left 1 1 1;left 3 1 1;left 5 1 1;left 7 1 1;right 2 1 1;right 4 1 1;right 6 1 1;right 8 1 1;");
        due("four pairs", x.cuts(4), 4);
    }

    private static void whose() {
        promise = 20;
        HalfLadders x = told("right 2 5 1;left 2 4 1;left 2 9 1;right 2 7 1;right 2 9 1;quarrel 2 4;left 3 9 9;");
        // 10: 4, 13: 4, 14: 4, 20: 5, 23: 7; 24 is in a quarrel
        due("all", x.whose(2, 1, 0), 5);
        due("first", x.whose(2, 1, 1), 10);
        due("4 high", x.whose(2, 4, 0), 5);
        due("5 high", x.whose(2, 5, 0), 2);
        due("first of 5 high", x.whose(2, 5, 1), 20);
        due("first of 6 high", x.whose(2, 6, 1), 23);
        due("8 high", x.whose(2, 8, 0), 0);
        due("first of none", x.whose(2, 8, 1), HalfLadders.NONE);
        due("another gap", x.whose(3, 1, 0), 0);
        due("gap 9", x.whose(9, 9, 1), HalfLadders.NONE);
        due("gap 0", x.whose(0, 1, 0), HalfLadders.BAD);
        due("gap 10", x.whose(10, 1, 0), HalfLadders.BAD);
        due("height 0", x.whose(1, 0, 0), HalfLadders.BAD);
        due("height 10", x.whose(1, 10, 0), HalfLadders.BAD);
        due("what -1", x.whose(1, 1, -1), HalfLadders.BAD);
        due("what 2", x.whose(1, 1, 2), HalfLadders.BAD);
    }

    private static void mark() {
        promise = 21;
        HalfLadders x = told("left 9 2 3;right 9 8 7;right 9 1 1;right 8 1 1;");
        x.ends();
        x.ends();
        int[] due = {2, -7, 4, -4, 6, 4};
        int[] body = {1, 11, 101, 1011, 10101, 100001};
        long trace = 0;
        for (int kind = 0; kind <= 5; kind++) {
            due("kind " + kind, x.mark(kind, 0), due[kind]);
            trace += body[kind];
            due("trace of " + kind, x.trace(), trace);
        }
        due("how many it fits", x.mark(4, 1), 17);
        due("none", x.mark(4, 3), 2);
        trace = x.trace();
        due("kind 6", x.mark(6, 0), HalfLadders.NO);
        due("kind -1", x.mark(-1, 0), HalfLadders.NO);
        due("none such", x.mark(0, 4), HalfLadders.NO);
        due("below 0", x.mark(0, -1), HalfLadders.NO);
        due("no trace of these", x.trace(), trace);
    }

    private static void images() {
        promise = 22;
        HalfLadders x = told("left 1 2 3;right 1 8 7;tree 1 0 30;tree 1 1 8;");
        due("image 2", x.keep(2), HalfLadders.BAD);
        due("image -1", x.keep(-1), HalfLadders.BAD);
        promise = 23;
        due("image 2", x.back(2), HalfLadders.BAD);
        due("image -1", x.back(-1), HalfLadders.BAD);
        due("none was kept", x.back(0), HalfLadders.STATE);
        promise = 22;
        x.ends();
        x.lot(9);
        x.climb(0, 1, 0);
        due("keep", x.keep(0), 1);
        due("keep again", x.keep(0), 1);
        for (int i = 0; i < 4; i++) {
            x.ends();
        }
        due("keep another", x.keep(1), 5);
        x.year();
        typed(x, "left");
        x.mark(0, 0);
        promise = 23;
        due("back", x.back(0), 1);
        due("day", x.now(0), 1);
        due("picked", x.now(1), 10);
        due("fallen", x.now(2), 0);
        due("left", x.now(3), 28);
        due("who did climb", x.now(4), 3);
        due("which trees", x.tree(0, 4), 1);
        due("which trees not", x.tree(1, 4), 0);
        due("of tree 0", x.tree(0, 3), 20);
        due("the text is not kept", x.count(3), 4);
        due("nor the trace", x.trace(), 1);
        due("the lot", x.lot(3), 9);
        due("the other", x.back(1), 5);
        due("fallen then", x.now(2), 28);
        due("the lot then", x.lot(3), 9);
        x.ends();
        due("an image stays", x.back(1), 5);
        due("what came later does not reach it", x.now(0), 5);
        x.clear();
        x.orchard();
        due("gone", x.back(0), HalfLadders.STATE);
        due("gone, too", x.back(1), HalfLadders.STATE);
    }

    private static void count() {
        promise = 24;
        HalfLadders x = told("left 1 2 3;left 1 8 7;right 1 1 1;quarrel 0 1;quarrel 2 1;quarrel 1 2;tree 1 0 30;tree 1 1 8;");
        typed(x, "abcde");
        due("people", x.count(0), 3);
        due("trees", x.count(1), 2);
        due("quarrels", x.count(2), 2);
        due("bytes", x.count(3), 5);
        due("what 4", x.count(4), HalfLadders.BAD);
        due("what -1", x.count(-1), HalfLadders.BAD);
    }

    private static void trace() {
        promise = 25;
        HalfLadders x = told("left 1 2 3;");
        due("at first", x.trace(), 0);
        for (int i = 0; i < 400; i++) {
            x.mark(5, 0);
        }
        due("of all calls together", x.trace(), 40000400L);
        x.orchard();
        due("read anew", x.trace(), 40000400L);
    }

    /** Numbers far outside are BAD wherever numbers are told, and change nothing. */
    private static void wrongNumbers() {
        promise = 0;
        HalfLadders x = told("left 1 5 3;right 1 5 2;tree 1 0 9;");
        int[] far = {Integer.MIN_VALUE, Integer.MIN_VALUE + 1, -65536, -32, -10, -2, 10, 31, 32, 33, 64, 256, 65536, Integer.MAX_VALUE};
        for (int e : far) {
            int[] answers = {x.type(0, e), x.half(e, 0), x.half(0, e), x.tree(e, 0), x.tree(0, e), x.fit(e, 0), x.fit(0, e),
                x.fit(e, e), x.climb(e, 0, 0), x.climb(0, e, 0), x.climb(0, 1, e), x.now(e), x.best(e), x.season(e),
                x.worth(e, 0), x.worth(0, e), x.asked(e), x.cuts(e), x.whose(e, 1, 0), x.whose(1, e, 0), x.whose(1, 1, e),
                x.keep(e), x.back(e), x.count(e)};
            for (int i = 0; i < answers.length; i++) {
                due("call " + i + " with " + e, answers[i], HalfLadders.BAD);
            }
            due("mark of kind " + e, x.mark(e, 0), HalfLadders.NO);
            due("mark of half " + e, x.mark(0, e), HalfLadders.NO);
        }
        due("whole of the first bit alone", x.whole(Integer.MIN_VALUE), 0);
        due("nothing came of it", x.now(1) + x.now(4) + x.count(3) + x.trace(), 0);
    }
}
