/** Boundary cases of promises 1 to 9: a new object, texts, what is told. */
final class TextsAndToldEdges {
    private static final int UNKNOWN = PocketKeeper.UNKNOWN;
    private static final int OUTSIDE = PocketKeeper.OUTSIDE;
    private static final int STATE = PocketKeeper.STATE;
    private static final int[] NO_TOOLS = {-1, 8, 32, -32, Integer.MIN_VALUE, Integer.MAX_VALUE};

    private TextsAndToldEdges() {
    }

    static void all() {
        newObject();
        letterComes();
        letterOutside();
        letterFull();
        blankPage();
        faultPlace();
        faultNone();
        jobsRead();
        jobsOthersAreGone();
        jobsHowMany();
        jobsPageIsEmpty();
        jobsState();
        bigOrSlim();
        bigUnknown();
        pocketsBecome();
        pocketsOutside();
        breakThereOrNot();
        breaksUnknown();
        swapPlaces();
        swapHowOften();
        swapUnknown();
    }

    private static PocketKeeper page(String text) {
        PocketKeeper x = new PocketKeeper();
        Due.write(x, text);
        return x;
    }

    private static void newObject() {
        Sentences.test(1, "No JOBS.");
        PocketKeeper x = new PocketKeeper();
        Due.countsAre("new", x, 0, 0, 4, 0, 0, 0, 0, 0);
        Due.due("blank()", x.blank(), 0);
        Due.due("fault()", x.fault(), 0);
        Due.due("jobs()", x.jobs(), STATE);
        Due.due("breaks(0, 0, true)", x.breaks(0, 0, true), UNKNOWN);
        Due.due("swap(0, 0)", x.swap(0, 0), UNKNOWN);
        Due.due("as(0, 0)", x.as(0, 0), 0);
        Due.due("job(0, 0)", x.job(0, 0), UNKNOWN);
        Due.due("next(0, 0)", x.next(0, 0), UNKNOWN);
        Due.due("soonest(0, 0)", x.soonest(0, 0), UNKNOWN);
        Due.due("plan(0, 0)", x.plan(0, 0), UNKNOWN);
        Due.due("cost(2)", x.cost(2), STATE);
        Due.due("mean()", x.mean(), STATE);
        Due.due("ratio()", x.ratio(), STATE);
        Due.due("pair(0)", x.pair(0), STATE);
        Due.due("better()", x.better(), STATE);
        PocketKeeper told = Due.with(2, "a", "a,b");
        PocketKeeper other = new PocketKeeper();
        Due.countsAre("another new one", other, 0, 0, 4, 0, 0, 0, 0, 0);
        Due.due("the first one's JOBS", told.count(0), 2);
    }

    private static void letterComes() {
        Sentences.test(2, "A letter comes behind THE PAGE, by its code: how many THE PAGE has.");
        PocketKeeper x = new PocketKeeper();
        Due.due("letter('b')", x.letter('b'), 1);
        Due.due("letter(',')", x.letter(','), 2);
        Due.due("letter('a')", x.letter('a'), 3);
        Due.due("jobs()", x.jobs(), 2);
        Due.due("job(0, 0)", x.job(0, 0), 2);
        Due.due("job(1, 0)", x.job(1, 0), 1);
        Due.due("letter('a') on the page behind jobs()", x.letter('a'), 1);
        // any code may stand on the page, and the digest tells each
        long h = 1699;
        PocketKeeper y = new PocketKeeper();
        for (int code : new int[] {32, 126, 44, 97, 104}) {
            y.letter(code);
            h = 31 * h + code;
        }
        for (int number : new int[] {0, 5, 4, 0, 0, 0, 0, 0}) {
            h = 31 * h + number;
        }
        Due.due("digest() of the page", y.digest(), h);
    }

    private static void letterOutside() {
        Sentences.test(2, "OUTSIDE: code (32 to 126);");
        PocketKeeper x = new PocketKeeper();
        for (int code : new int[] {31, 127, 0, -1, 128, 255, 256 + 97, 65536 + 97, Integer.MIN_VALUE, Integer.MAX_VALUE}) {
            Due.due("letter(" + code + ")", x.letter(code), OUTSIDE);
        }
        Due.due("count(1)", x.count(1), 0);
        int many = 0;
        for (int code = 32; code <= 126; code++) {
            if (many == 71) {
                Due.due("blank()", x.blank(), 71);
                many = 0;
            }
            many++;
            Due.due("letter(" + code + ")", x.letter(code), many);
        }
    }

    private static void letterFull() {
        Sentences.test(2, "FULL: there are 71.");
        PocketKeeper x = page("a".repeat(70));
        Due.due("count(1)", x.count(1), 70);
        Due.due("letter 71", x.letter('a'), 71);
        Due.changesNothing("a letter too many", x, () -> Due.due("letter 72", x.letter('a'), PocketKeeper.FULL));
        Due.due("letter 72 again", x.letter(','), PocketKeeper.FULL);
        Due.due("blank()", x.blank(), 71);
        Due.due("letter() behind blank()", x.letter('a'), 1);
        PocketKeeper y = page("abcdefgh,".repeat(7) + "abcdefgh");
        Due.due("letter() behind the longest JOBS", y.letter('a'), PocketKeeper.FULL);
        Due.due("jobs()", y.jobs(), 8);
        Due.due("letter() behind jobs()", y.letter('a'), 1);
    }

    private static void blankPage() {
        Sentences.test(3, "THE PAGE is empty: how many letters it had.");
        Due.due("blank() of none", page("").blank(), 0);
        Due.due("blank() of one", page("?").blank(), 1);
        Due.due("blank() of 71", page("?".repeat(71)).blank(), 71);
        PocketKeeper x = Due.with(3, "b", "ab,c");
        x.breaks(0, 0, true);
        x.swap(0, 1);
        long h = x.digest();
        Due.write(x, "xyz");
        Due.due("blank()", x.blank(), 3);
        Due.due("blank() again", x.blank(), 0);
        Due.due("count(1)", x.count(1), 0);
        Due.due("all else stays", x.digest(), h);
        Due.due("jobs()", x.jobs(), STATE);
    }

    private static void faultIs(String text, int want) {
        PocketKeeper x = page(text);
        Due.changesNothing("fault() of '" + text + "'", x, () -> Due.due("fault() of '" + text + "'", x.fault(), want));
    }

    private static void faultPlace() {
        Sentences.test(4, "The place (from 0) of the first letter of THE PAGE with which, and those ahead of it, no JOBS begin;");
        faultIs(",", 0);
        faultIs("i", 0);
        faultIs("`", 0);
        faultIs("A", 0);
        faultIs(" ", 0);
        faultIs("~", 0);
        faultIs("aa", 1);
        faultIs("ba", 1);
        faultIs("hh", 1);
        faultIs("a b", 1);
        faultIs("a,,", 2);
        faultIs("a,b,i", 4);
        faultIs("ab,ba", 4);
        faultIs("ba,,,", 1);
        faultIs("abcdefgh,abcdefgha", 17);
        faultIs("a,b,c,d,e,f,g,h,", 15);
        faultIs("a,b,c,d,e,f,g,h,a", 15);
        faultIs("abcdefgh,".repeat(7) + "abcdefgg", 70);
        faultIs("a".repeat(71), 1);
    }

    private static void faultNone() {
        Sentences.test(4, "how many letters it has, if there is none.");
        faultIs("", 0);
        faultIs("a", 1);
        faultIs("h", 1);
        faultIs("a,", 2);
        faultIs("h,", 2);
        faultIs("h,a", 3);
        faultIs("abcdefgh", 8);
        faultIs("abcdefgh,", 9);
        faultIs("a,b,c,d,e,f,g,", 14);
        faultIs("a,b,c,d,e,f,g,h", 15);
        faultIs("a,b,c,d,e,f,g,gh", 16);
        faultIs("abcdefgh,".repeat(7) + "abcdefg", 70);
        faultIs("abcdefgh,".repeat(7) + "abcdefgh", 71);
    }

    private static void jobsRead() {
        Sentences.test(5, "THE PAGE is read as JOBS");
        PocketKeeper x = Due.of("abcdefgh,a,h,bc,ah,g,cde,b");
        int[] needs = {255, 1, 128, 6, 129, 64, 28, 2};
        for (int place = 0; place < 8; place++) {
            Due.due("job(" + place + ", 0)", x.job(place, 0), needs[place]);
            Due.due("job(" + place + ", 1)", x.job(place, 1), place);
        }
        Due.due("count(6)", x.count(6), 1);
        Due.write(x, "a");
        x.jobs();
        Due.due("count(6) then", x.count(6), 2);
    }

    private static void jobsOthersAreGone() {
        Sentences.test(5, "(others are gone, with BREAKS; SIZES, POCKETS stay):");
        PocketKeeper x = Due.with(7, "ah", "ab,c,d");
        for (int place = 0; place < 3; place++) {
            x.breaks(place, place, true);
            x.breaks(place, 7, true);
        }
        x.swap(0, 2);
        Due.write(x, "e,f");
        Due.due("jobs() of fewer", x.jobs(), 2);
        Due.countsAre("of fewer", x, 2, 0, 7, 129, 0, 0, 2, 0);
        Due.due("job(2, 0)", x.job(2, 0), UNKNOWN);
        Due.due("swap(0, 2)", x.swap(0, 2), UNKNOWN);
        Due.due("breaks(2, 0, false)", x.breaks(2, 0, false), UNKNOWN);
        Due.write(x, "a,b,c");
        Due.due("jobs() of as many as once", x.jobs(), 3);
        for (int place = 0; place < 3; place++) {
            Due.due("job(" + place + ", 0)", x.job(place, 0), 1 << place);
            Due.due("job(" + place + ", 1)", x.job(place, 1), place);
            Due.due("job(" + place + ", 2)", x.job(place, 2), 0);
        }
        Due.due("BOUND", x.cost(2), 4);
    }

    private static void jobsHowMany() {
        Sentences.test(5, "how many;");
        StringBuilder text = new StringBuilder("a");
        for (int many = 1; many <= 8; many++) {
            PocketKeeper x = page(text.toString());
            Due.due("jobs() of " + text, x.jobs(), many);
            Due.due("count(0) of " + text, x.count(0), many);
            text.append(",h");
        }
    }

    private static void jobsPageIsEmpty() {
        Sentences.test(5, "THE PAGE is empty then.");
        PocketKeeper x = page("a,b");
        x.jobs();
        Due.due("count(1)", x.count(1), 0);
        Due.due("fault()", x.fault(), 0);
        Due.due("blank()", x.blank(), 0);
        Due.due("jobs() again", x.jobs(), STATE);
        Due.due("the JOBS stay", x.count(0), 2);
        Due.due("count(6)", x.count(6), 1);
    }

    private static void jobsState() {
        Sentences.test(5, "STATE: it is none.");
        PocketKeeper x = Due.with(3, "b", "ab,c");
        x.breaks(0, 0, true);
        x.swap(0, 1);
        String[] none = {"", ",", "a,", "a,b,c,d,e,f,g,", ",a", "a,,b", "ba", "aa", "i", "a b", "A", "a,b,c,d,e,f,g,h,a", "abcdefgha"};
        for (String text : none) {
            x.blank();
            Due.write(x, text);
            Due.changesNothing("jobs() of '" + text + "'", x, () -> Due.due("jobs() of '" + text + "'", x.jobs(), STATE));
            Due.countsAre("behind '" + text + "'", x, 2, text.length(), 3, 2, 1, 1, 1, 0);
        }
        x.blank();
        Due.write(x, "a,");
        x.jobs();
        x.letter('h');
        Due.due("jobs(), the page written on", x.jobs(), 2);
    }

    private static void bigOrSlim() {
        Sentences.test(6, "A TOOL is BIG, or SLIM: whether it was BIG (1, 0).");
        PocketKeeper x = new PocketKeeper();
        for (int tool = 0; tool < 8; tool++) {
            Due.due("big(" + tool + ", false), SLIM", x.big(tool, false), 0);
            Due.due("big(" + tool + ", true), SLIM", x.big(tool, true), 0);
            Due.due("count(3)", x.count(3), 1 << tool);
            Due.due("big(" + tool + ", true), BIG", x.big(tool, true), 1);
            Due.due("big(" + tool + ", false), BIG", x.big(tool, false), 1);
            Due.due("count(3)", x.count(3), 0);
        }
        PocketKeeper y = Due.with(2, "", "ab");
        y.big(0, true);
        Due.due("big() makes JOBS TOO BIG", y.count(7), 1);
        y.big(0, false);
        Due.due("and no more", y.count(7), 0);
        Due.due("cost(1)", y.cost(1), 2);
        PocketKeeper asked = Due.with(2, "", "a,b,a");
        Due.costsAre("asked ahead of big()", asked, 2, 2, 2, 2, 2);
        Due.pairIs("asked ahead of big()", asked, PocketKeeper.NONE, PocketKeeper.NONE, PocketKeeper.NONE);
        asked.big(1, true);
        Due.costsAre("asked behind big()", asked, 4, 4, 3, 3, 3);
        Due.pairIs("asked behind big()", asked, 0, 1, 3);
    }

    private static void bigUnknown() {
        Sentences.test(6, "UNKNOWN: tool.");
        PocketKeeper x = new PocketKeeper();
        for (int tool : NO_TOOLS) {
            Due.due("big(" + tool + ", true)", x.big(tool, true), UNKNOWN);
            Due.due("big(" + tool + ", false)", x.big(tool, false), UNKNOWN);
        }
        Due.due("count(3)", x.count(3), 0);
    }

    private static void pocketsBecome() {
        Sentences.test(7, "POCKETS become v: how many they were.");
        PocketKeeper x = Due.of("ab,c,ab");
        Due.due("pockets(4), the same", x.pockets(4), 4);
        Due.due("pockets(12)", x.pockets(12), 4);
        Due.due("count(2)", x.count(2), 12);
        Due.due("pockets(2)", x.pockets(2), 12);
        Due.due("count(2)", x.count(2), 2);
        Due.due("cost(1) with two", x.cost(1), 4);
        Due.due("pockets(3)", x.pockets(3), 2);
        Due.due("cost(1) with three", x.cost(1), 3);
        Due.pairIs("with three", x, PocketKeeper.NONE, PocketKeeper.NONE, PocketKeeper.NONE);
        x.pockets(2);
        Due.pairIs("with two", x, 0, 1, 3);
        PocketKeeper y = Due.of("abc");
        y.pockets(2);
        Due.due("too few POCKETS may be told", y.count(7), 1);
        Due.due("pockets(3) behind it", y.pockets(3), 2);
        Due.due("cost(1)", y.cost(1), 3);
    }

    private static void pocketsOutside() {
        Sentences.test(7, "OUTSIDE: v.");
        PocketKeeper x = new PocketKeeper();
        for (int v : new int[] {1, 13, 0, -1, -4, Integer.MIN_VALUE, Integer.MAX_VALUE}) {
            Due.due("pockets(" + v + ")", x.pockets(v), OUTSIDE);
        }
        Due.due("count(2)", x.count(2), 4);
        Due.due("pockets(2)", x.pockets(2), 4);
        Due.due("pockets(12)", x.pockets(12), 2);
    }

    private static void breakThereOrNot() {
        Sentences.test(8, "A BREAK is there, or not: whether it was (1, 0).");
        PocketKeeper x = Due.of("a,b,c,d,e,f,g,h");
        for (int place = 0; place < 8; place += 7) {
            for (int tool = 0; tool < 8; tool += 7) {
                String of = "breaks(" + place + ", " + tool;
                Due.due(of + ", false), none", x.breaks(place, tool, false), 0);
                Due.due(of + ", true), none", x.breaks(place, tool, true), 0);
                Due.due(of + ", true), one", x.breaks(place, tool, true), 1);
                Due.due("job(" + place + ", 2)", x.job(place, 2), 1 << tool);
                Due.due("count(4)", x.count(4), 1);
                Due.due(of + ", false), one", x.breaks(place, tool, false), 1);
                Due.due("job(" + place + ", 2)", x.job(place, 2), 0);
                Due.due("count(4)", x.count(4), 0);
            }
        }
        for (int i = 0; i < 64; i++) {
            Due.due("breaks() " + i, x.breaks(i >> 3, i & 7, true), 0);
        }
        Due.due("count(4) of all", x.count(4), 64);
        PocketKeeper asked = Due.of("a,b,a");
        Due.costsAre("asked ahead of breaks()", asked, 2, 2, 2, 2, 2);
        asked.pair(0);
        asked.breaks(0, 0, true);
        Due.costsAre("asked behind breaks()", asked, 3, 3, 2, 3, 3);
        Due.pairIs("asked behind breaks()", asked, 0, 1, 2);
        asked.breaks(0, 0, false);
        Due.costsAre("asked again", asked, 2, 2, 2, 2, 2);
    }

    private static void breaksUnknown() {
        Sentences.test(8, "UNKNOWN: place, tool.");
        PocketKeeper x = Due.of("a,b,c");
        for (int place : new int[] {-1, 3, 7, 8, Integer.MIN_VALUE, Integer.MAX_VALUE}) {
            Due.due("breaks(" + place + ", 0, true)", x.breaks(place, 0, true), UNKNOWN);
            Due.due("breaks(" + place + ", 0, false)", x.breaks(place, 0, false), UNKNOWN);
        }
        for (int tool : NO_TOOLS) {
            Due.due("breaks(2, " + tool + ", true)", x.breaks(2, tool, true), UNKNOWN);
            Due.due("breaks(2, " + tool + ", false)", x.breaks(2, tool, false), UNKNOWN);
        }
        Due.due("breaks(3, 8, true)", x.breaks(3, 8, true), UNKNOWN);
        Due.due("count(4)", x.count(4), 0);
        Due.due("with no JOBS", new PocketKeeper().breaks(0, 0, true), UNKNOWN);
    }

    private static void orderIs(String name, PocketKeeper x, int... want) {
        for (int place = 0; place < want.length; place++) {
            Due.due(name + " job(" + place + ", 1)", x.job(place, 1), want[place]);
            Due.due(name + " job(" + place + ", 0)", x.job(place, 0), 1 << want[place]);
        }
    }

    private static void swapPlaces() {
        Sentences.test(9, "JOBS at two PLACES (perhaps one) are changed about:");
        PocketKeeper x = Due.of("a,b,c,d,e,f,g,h");
        x.swap(0, 7);
        orderIs("0 and 7", x, 7, 1, 2, 3, 4, 5, 6, 0);
        x.swap(7, 1);
        orderIs("7 and 1", x, 7, 0, 2, 3, 4, 5, 6, 1);
        x.swap(3, 3);
        orderIs("3 and 3", x, 7, 0, 2, 3, 4, 5, 6, 1);
        x.swap(1, 7);
        x.swap(7, 0);
        orderIs("back again", x, 0, 1, 2, 3, 4, 5, 6, 7);
        PocketKeeper asked = Due.with(2, "b", "a,b,a");
        Due.costsAre("asked ahead of swap()", asked, 4, 4, 3, 3, 3);
        Due.pairIs("asked ahead of swap()", asked, 0, 1, 3);
        asked.swap(1, 2);
        Due.costsAre("asked behind swap()", asked, 3, 3, 3, 2, 2);
        Due.pairIs("asked behind swap()", asked, PocketKeeper.NONE, PocketKeeper.NONE, PocketKeeper.NONE);
        PocketKeeper one = Due.of("a");
        Due.due("the only one", one.swap(0, 0), 1);
        orderIs("the only one", one, 0);
    }

    private static void swapHowOften() {
        Sentences.test(9, "how often ORDER was changed so since JOBS were read (this, too; by better() also).");
        PocketKeeper x = Due.with(2, "b", "a,b,a");
        Due.due("swap(0, 2)", x.swap(0, 2), 1);
        Due.due("swap(1, 1)", x.swap(1, 1), 2);
        Due.due("swap(3, 0), refused", x.swap(3, 0), UNKNOWN);
        Due.due("better()", x.better(), 3);
        Due.due("count(5)", x.count(5), 3);
        Due.due("better() that finds none", x.better(), PocketKeeper.NONE);
        Due.due("swap(0, 1)", x.swap(0, 1), 4);
        Due.write(x, "b,a");
        Due.due("jobs()", x.jobs(), 2);
        Due.due("count(5)", x.count(5), 0);
        Due.due("swap(1, 0)", x.swap(1, 0), 1);
        Due.due("jobs() of no text", x.jobs(), STATE);
        Due.due("swap(1, 0)", x.swap(1, 0), 2);
    }

    private static void swapUnknown() {
        Sentences.test(9, "UNKNOWN: a, b.");
        PocketKeeper x = Due.of("a,b,c");
        for (int place : new int[] {-1, 3, 7, 8, Integer.MIN_VALUE, Integer.MAX_VALUE}) {
            Due.due("swap(" + place + ", 0)", x.swap(place, 0), UNKNOWN);
            Due.due("swap(2, " + place + ")", x.swap(2, place), UNKNOWN);
            Due.due("swap(" + place + ", " + place + ")", x.swap(place, place), UNKNOWN);
        }
        Due.due("count(5)", x.count(5), 0);
        orderIs("behind refusals", x, 0, 1, 2);
        Due.due("with no JOBS", new PocketKeeper().swap(0, 0), UNKNOWN);
    }
}
