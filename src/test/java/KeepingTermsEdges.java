/** Boundary cases of the document's "Terms": KEEPING, NEXT, SOONEST, LEAST, THE PLAN, BOUND, BETTER. */
final class KeepingTermsEdges {
    private static final int T = Sentences.TERMS;
    private static final int NONE = PocketKeeper.NONE;

    private KeepingTermsEdges() {
    }

    static void all() {
        emptyAtFirst();
        allThatIsNeededIsThere();
        comingCostsItsSize();
        whatIsNotNeededMayStayOrGo();
        nothingElseComes();
        thenBreaks();
        nextIsTheFirstBehind();
        nextWithBreaks();
        elseNever();
        soonestJustAsLong();
        soonestKeepsWhatIsNeeded();
        soonestLatestNext();
        soonestNeverIsLatest();
        soonestBigAheadOfSlim();
        soonestGreatestNumber();
        least();
        planIsLeastAtPlaceZero();
        planOfLikeOnes();
        bound();
        betterIsLeast();
        betterLesserFirst();
        betterLesserSecond();
        betterNone();
    }

    private static void emptyAtFirst() {
        Sentences.test(T, "KEEPING a magazine, empty at first, PLACE by PLACE:");
        PocketKeeper x = Due.of("abc,abc");
        Due.soonestIs("at PLACE 0", x, 0, "abc", "abc", "", 3);
        Due.planIs("at PLACE 0", x, 0, "abc", "abc", "", 3);
        Due.soonestIs("at PLACE 1", x, 1, "abc", "", "", 0);
        Due.write(x, "bc,a");
        x.jobs();
        Due.soonestIs("empty again for new JOBS", x, 0, "bc", "bc", "", 2);
        Due.planIs("empty again for new JOBS", x, 0, "bc", "bc", "", 2);
        x.swap(0, 1);
        Due.soonestIs("empty again in another ORDER", x, 0, "a", "a", "", 1);
        Due.planIs("empty again in another ORDER", x, 0, "a", "a", "", 1);
    }

    private static void allThatIsNeededIsThere() {
        Sentences.test(T, "at each one all that the JOB NEEDS is there;");
        PocketKeeper x = Due.with(8, "", "a,abcdefgh,h,bc,de,fg,ah,abcdefgh");
        for (int place = 0; place < 8; place++) {
            int needs = x.job(place, 0);
            Due.due("soonest(" + place + ", 0)", x.soonest(place, 0) & needs, needs);
            Due.due("plan(" + place + ", 0)", x.plan(place, 0) & needs, needs);
        }
        Due.soonestIs("a JOB that fills the magazine", Due.with(2, "", "ab,cd"), 1, "cd", "cd", "ab", 2);
        Due.planIs("a JOB that fills the magazine", Due.with(2, "", "ab,cd,ab"), 1, "cd", "cd", "ab", 2);
    }

    private static void comingCostsItsSize() {
        Sentences.test(T, "what was not there COMES: that costs its SIZE.");
        PocketKeeper x = Due.with(2, "b", "a,b,b,a");
        Due.soonestIs("a SLIM one", x, 0, "a", "a", "", 1);
        Due.soonestIs("a BIG one", x, 1, "b", "b", "a", 2);
        Due.soonestIs("what was there", x, 2, "b", "", "", 0);
        Due.soonestIs("what was there once", x, 3, "a", "a", "b", 1);
        Due.planIs("a SLIM one", x, 0, "a", "a", "", 1);
        Due.planIs("a BIG one", x, 1, "b", "b", "a", 2);
        Due.planIs("what was there", x, 2, "b", "", "", 0);
        Due.planIs("what was there once", x, 3, "a", "a", "b", 1);
        Due.soonestIs("a SLIM and a BIG one", Due.with(4, "h", "gh"), 0, "gh", "gh", "", 3);
    }

    private static void whatIsNotNeededMayStayOrGo() {
        Sentences.test(T, "What the JOB does not NEED may stay (as far as there are POCKETS), or go;");
        PocketKeeper x = Due.with(3, "", "ab,c");
        Due.soonestIs("all stay", x, 1, "abc", "c", "", 1);
        Due.planIs("all go", x, 1, "c", "c", "ab", 1);
        PocketKeeper y = Due.with(3, "c", "ab,c,ab");
        Due.soonestIs("one stays", y, 1, "ac", "c", "b", 2);
        Due.planIs("one stays", y, 1, "ac", "c", "b", 2);
        PocketKeeper z = Due.with(2, "c", "ab,c,ab");
        Due.soonestIs("none can stay", z, 1, "c", "c", "ab", 2);
        Due.planIs("none can stay", z, 1, "c", "c", "ab", 2);
    }

    private static void nothingElseComes() {
        Sentences.test(T, "nothing else COMES.");
        PocketKeeper x = Due.with(12, "", "a,b,ab,c,abc");
        Due.soonestIs("pockets are free", x, 0, "a", "a", "", 1);
        Due.planIs("pockets are free", x, 0, "a", "a", "", 1);
        Due.soonestIs("pockets are free", x, 1, "ab", "b", "", 1);
        Due.planIs("pockets are free", x, 1, "ab", "b", "", 1);
        Due.soonestIs("nothing COMES", x, 2, "ab", "", "", 0);
        Due.planIs("nothing COMES", x, 2, "ab", "", "", 0);
        // by the end SOONEST holds the tools of all jobs, and never one that no job needs
        Due.soonestIs("nothing COMES", x, 4, "abc", "", "", 0);
    }

    private static void thenBreaks() {
        Sentences.test(T, "Then BREAKS of the PLACE.");
        PocketKeeper x = Due.of("a,b,a");
        x.breaks(1, 0, true);
        Due.soonestIs("it stays up to its BREAK", x, 1, "ab", "b", "", 1);
        Due.soonestIs("gone behind it", x, 2, "ab", "a", "", 1);
        Due.planIs("no use in keeping it", x, 1, "b", "b", "a", 1);
        Due.planIs("gone behind it", x, 2, "a", "a", "b", 1);
        PocketKeeper needed = Due.of("ab,ab");
        needed.breaks(0, 0, true);
        needed.breaks(0, 1, true);
        Due.soonestIs("what the JOB itself NEEDS", needed, 0, "ab", "ab", "", 2);
        Due.soonestIs("gone, both of them", needed, 1, "ab", "ab", "", 2);
        // a broken tool leaves its pocket free
        PocketKeeper free = Due.with(2, "", "ab,c,a");
        free.breaks(0, 1, true);
        Due.soonestIs("a pocket is free behind a BREAK", free, 1, "ac", "c", "", 1);
    }

    private static void nextsAre(String name, PocketKeeper x, int tool, int... want) {
        for (int place = 0; place < want.length; place++) {
            Due.due(name + " next(" + place + ", " + tool + ")", x.next(place, tool), want[place]);
        }
    }

    private static void nextIsTheFirstBehind() {
        Sentences.test(T, "NEXT of a TOOL at a PLACE: the first PLACE behind it whose JOB NEEDS it,");
        nextsAre("not this PLACE itself", Due.of("a,b"), 0, NONE, NONE);
        nextsAre("the PLACE just behind", Due.of("a,a"), 0, 1, NONE);
        nextsAre("the first of several", Due.of("b,a,a,b,a"), 0, 1, 2, 4, 4, NONE);
        nextsAre("a TOOL that was not needed yet", Due.of("a,a,h"), 7, 2, 2, NONE);
        nextsAre("up to the last PLACE", Due.of("a,b,b,b,b,b,b,a"), 0, 7, 7, 7, 7, 7, 7, 7, NONE);
        nextsAre("the only JOB", Due.of("a"), 0, NONE);
        PocketKeeper x = Due.of("a,b,c");
        x.swap(0, 2);
        nextsAre("in another ORDER", x, 0, 2, 2, NONE);
    }

    private static void nextWithBreak(String name, int at, int... want) {
        PocketKeeper x = Due.of("b,a,b,b,a,a");
        x.breaks(at, 0, true);
        nextsAre(name, x, 0, want);
        x.breaks(at, 0, false);
        x.breaks(at, 1, true);
        nextsAre("a BREAK of another TOOL", x, 0, 1, 4, 4, 4, 5, NONE);
    }

    private static void nextWithBreaks() {
        Sentences.test(T, "if no BREAK of it is at any PLACE from this one on up to that ahead of that one;");
        nextWithBreak("a BREAK at PLACE 0", 0, NONE, 4, 4, 4, 5, NONE);
        nextWithBreak("a BREAK at PLACE 1", 1, 1, NONE, 4, 4, 5, NONE);
        nextWithBreak("a BREAK at PLACE 2", 2, 1, NONE, NONE, 4, 5, NONE);
        nextWithBreak("a BREAK at PLACE 3", 3, 1, NONE, NONE, NONE, 5, NONE);
        nextWithBreak("a BREAK at PLACE 4", 4, 1, 4, 4, 4, NONE, NONE);
        nextWithBreak("a BREAK at PLACE 5", 5, 1, 4, 4, 4, 5, NONE);
    }

    private static void elseNever() {
        Sentences.test(T, "else it is never.");
        PocketKeeper x = Due.of("a,b,a,a");
        x.breaks(1, 0, true);
        nextsAre("not the next but one", x, 0, NONE, NONE, 3, NONE);
        nextsAre("a TOOL that no JOB NEEDS", x, 7, NONE, NONE, NONE, NONE);
        PocketKeeper y = Due.with(3, "", "abc,d,a,b,c");
        y.breaks(1, 0, true);
        Due.soonestIs("never, so it goes ahead of c", y, 1, "bcd", "d", "a", 1);
    }

    private static void soonestJustAsLong() {
        Sentences.test(T, "SOONEST: the KEEPING by which at each PLACE just as long as there is too much one goes");
        Due.soonestIs("not too much", Due.with(4, "", "abc,d"), 1, "abcd", "d", "", 1);
        Due.soonestIs("not too much, with what is there", Due.with(3, "", "abc,a"), 1, "abc", "", "", 0);
        Due.soonestIs("one too much", Due.with(3, "", "abc,d"), 1, "abd", "d", "c", 1);
        Due.soonestIs("two too much", Due.with(3, "", "abc,de"), 1, "ade", "de", "bc", 2);
        Due.soonestIs("two too much, two SLIM ones", Due.with(3, "d", "abc,d"), 1, "ad", "d", "bc", 2);
        Due.soonestIs("two too much, a BIG one", Due.with(4, "c", "abc,de"), 1, "abde", "de", "c", 2);
        Due.soonestIs("one too much, a BIG one", Due.with(4, "c", "abc,d"), 1, "abd", "d", "c", 1);
        Due.soonestIs("three too much, a BIG one and a SLIM one", Due.with(4, "c", "abc,def"), 1, "adef", "def", "bc", 3);
        Due.soonestIs("all go", Due.with(4, "", "abcd,efgh"), 1, "efgh", "efgh", "abcd", 4);
        Due.soonestIs("one too much of nine", Due.with(8, "h", "abcdefg,h,a"), 1, "abcdefh", "h", "g", 2);
    }

    private static void soonestKeepsWhatIsNeeded() {
        Sentences.test(T, "that the JOB does not NEED:");
        Due.soonestIs("b is never needed again", Due.with(2, "", "ab,bc,a"), 1, "bc", "c", "a", 1);
        Due.soonestIs("what COMES is never needed again", Due.with(2, "", "ab,h,a,b"), 1, "ah", "h", "b", 1);
        Due.soonestIs("what COMES is BIG", Due.with(3, "h", "ab,h,a,b"), 1, "ah", "h", "b", 2);
    }

    private static void soonestLatestNext() {
        Sentences.test(T, "that of latest NEXT");
        Due.soonestIs("the greatest number", Due.with(3, "", "abc,d,a,b,c"), 1, "abd", "d", "c", 1);
        Due.soonestIs("the least number", Due.with(3, "", "abc,d,c,b,a"), 1, "bcd", "d", "a", 1);
        Due.soonestIs("the one between", Due.with(3, "", "abc,d,c,a,b"), 1, "acd", "d", "b", 1);
        Due.soonestIs("a SLIM one later than a BIG one", Due.with(4, "c", "abc,d,c,b,a"), 1, "bcd", "d", "a", 1);
        Due.soonestIs("PLACE 7 is later than PLACE 6", Due.with(2, "", "ab,c,c,c,c,c,b,a"), 1, "bc", "c", "a", 1);
        Due.soonestIs("seen from this PLACE", Due.with(3, "", "ab,ac,d,a,c,b"), 2, "acd", "d", "b", 1);
    }

    private static void soonestNeverIsLatest() {
        Sentences.test(T, "(never is latest of all);");
        Due.soonestIs("never beside PLACE 7", Due.with(3, "", "abc,d,b,b,b,b,b,c"), 1, "bcd", "d", "a", 1);
        Due.soonestIs("never and SLIM, PLACE 7 and BIG", Due.with(4, "c", "abc,d,b,b,b,b,b,c"), 1, "bcd", "d", "a", 1);
        PocketKeeper x = Due.with(3, "", "abc,d,a,b,c");
        x.breaks(1, 1, true);
        Due.soonestIs("never by a BREAK", x, 1, "acd", "d", "b", 1);
    }

    private static void soonestBigAheadOfSlim() {
        Sentences.test(T, "of like ones a BIG one ahead of a SLIM one,");
        Due.soonestIs("both never", Due.with(4, "a", "abc,d"), 1, "bcd", "d", "a", 1);
        Due.soonestIs("like NEXT", Due.with(4, "a", "abc,d,abc"), 1, "bcd", "d", "a", 1);
        Due.soonestIs("not like: BIG is sooner", Due.with(4, "a", "abc,d,a,bc"), 1, "abd", "d", "c", 1);
        Due.soonestIs("BIG, then SLIM", Due.with(4, "a", "abc,def"), 1, "bdef", "def", "ac", 3);
        Due.soonestIs("never by a BREAK, and BIG", broken(4, "a", "abc,d,a", 1, 0), 1, "bcd", "d", "a", 1);
    }

    private static PocketKeeper broken(int pockets, String big, String jobs, int place, int tool) {
        PocketKeeper x = Due.with(pockets, big, jobs);
        x.breaks(place, tool, true);
        return x;
    }

    private static void soonestGreatestNumber() {
        Sentences.test(T, "then that of the greatest number.");
        Due.soonestIs("of SLIM ones, never", Due.with(3, "", "abc,d"), 1, "abd", "d", "c", 1);
        Due.soonestIs("of SLIM ones, like NEXT", Due.with(3, "", "abc,d,abc"), 1, "abd", "d", "c", 1);
        Due.soonestIs("of BIG ones", Due.with(5, "ab", "abc,d"), 1, "acd", "d", "b", 1);
        Due.soonestIs("one by one", Due.with(4, "", "aceg,bd"), 1, "abcd", "bd", "eg", 2);
        Due.soonestIs("a and h", Due.with(2, "", "ah,b"), 1, "ab", "b", "h", 1);
    }

    private static void least() {
        Sentences.test(T, "LEAST: the least that any KEEPING costs in all.");
        Due.due("LEAST of SIZES that SOONEST does not weigh", Due.with(4, "ab", "a,bc,d,a,bc").cost(1), 9);
        Due.due("a BIG one is dearer than a SLIM one", Due.with(3, "ac", "h,a,c,a,h").cost(1), 7);
        Due.due("LEAST of one JOB", Due.with(12, "abcd", "abcdefgh").cost(1), 12);
        Due.due("each TOOL once", Due.with(12, "abcd", "a,b,c,d,e,f,g,h").cost(1), 12);
        Due.due("nothing can stay", Due.with(2, "", "ab,cd,ab,cd,ab,cd,ab,cd").cost(1), 16);
        // of a and b one can stay at each second place, so behind the first 12 each place costs 2
        Due.due("one of two can stay", Due.with(12, "abcdef", "abcdef,cdefgh,abcdef,cdefgh,abcdef,cdefgh,abcdef,cdefgh").cost(1), 26);
        PocketKeeper x = Due.with(12, "abcd", "abcdefgh,".repeat(7) + "abcdefgh");
        Due.due("the same JOB eight times", x.cost(1), 12);
        for (int place = 0; place < 8; place++) {
            for (int tool = 0; tool < 8; tool++) {
                x.breaks(place, tool, true);
            }
        }
        Due.due("all breaks each time", x.cost(1), 96);
        Due.due("all breaks each time, SOONEST", x.cost(0), 96);
    }

    private static void planIsLeastAtPlaceZero() {
        Sentences.test(T, "THE PLAN: the KEEPING of that cost whose magazine at PLACE 0 is the least (as bits of TOOLS, with all that is there while the JOB is done),");
        PocketKeeper x = Due.with(12, "", "bh,a,bh");
        Due.planIs("all that is there", x, 0, "bh", "bh", "", 2);
        Due.planIs("all that is there", x, 1, "abh", "a", "", 1);
        Due.planIs("not of least bits alone, of least cost", x, 2, "bh", "", "a", 0);
        Due.planIs("LEAST, where SOONEST is not", Due.with(4, "ab", "a,bc,d,a,bc"), 2, "bd", "d", "c", 1);
        PocketKeeper y = Due.with(12, "", "abcdefgh,h");
        Due.planIs("at the last PLACE just what is needed", y, 1, "h", "", "abcdefg", 0);
    }

    private static void planOfLikeOnes() {
        Sentences.test(T, "of like ones that at PLACE 1, and so on.");
        PocketKeeper x = Due.with(2, "", "ab,c,b,a");
        // b kept at place 1 costs the same and leaves less at place 2, but place 1 counts first
        Due.planIs("like cost", x, 1, "ac", "c", "b", 1);
        Due.planIs("like cost", x, 2, "ab", "b", "c", 1);
        Due.planIs("like cost", x, 3, "a", "", "b", 0);
        PocketKeeper y = Due.with(2, "", "a,ab,c,b,a");
        Due.planIs("like up to PLACE 1", y, 1, "ab", "b", "", 1);
        Due.planIs("PLACE 2 counts then", y, 2, "ac", "c", "b", 1);
        PocketKeeper z = Due.with(2, "", "d,d,d,d,ab,c,b,a");
        Due.planIs("PLACE 5 counts", z, 5, "ac", "c", "b", 1);
        Due.planIs("PLACE 6 follows", z, 6, "ab", "b", "c", 1);
        Due.planIs("PLACE 7 follows", z, 7, "a", "", "b", 0);
    }

    private static void bound() {
        Sentences.test(T, "BOUND: the SIZES of all TOOLS that any JOB NEEDS, together.");
        Due.due("once, however often", Due.of("a,a,a").cost(2), 1);
        Due.due("of all JOBS", Due.of("ab,bc").cost(2), 3);
        Due.due("a BIG one", Due.with(4, "b", "ab,bc").cost(2), 4);
        Due.due("a BIG one that none NEEDS", Due.with(4, "h", "ab,bc").cost(2), 3);
        Due.due("all eight, BIG", Due.with(2, "abcdefgh", "a,b,c,d,e,f,g,h").cost(2), 16);
        Due.due("of the last JOB too", Due.of("a,h").cost(2), 2);
        PocketKeeper x = Due.of("a,a,a");
        x.breaks(0, 0, true);
        x.breaks(1, 0, true);
        Due.due("BREAKS are not counted", x.cost(2), 1);
    }

    private static void betterIsLeast() {
        Sentences.test(T, "BETTER: of all pairs of PLACES that one by which, if their JOBS are changed about, LEAST becomes least,");
        // of b,a,a,b the pair 0 and 1 costs 4, the pair 0 and 2 costs 3
        Due.pairIs("the best, not the first that is better", Due.with(2, "b", "b,a,a,b"), 0, 2, 3);
        // d,c,c,b,b,d,d,a becomes a,c,c,b,b,d,d,d and no other pair is as good; c,c,c,a,a,d,d,a becomes c,c,c,a,a,a,d,d
        Due.pairIs("the first and the last of eight", Due.with(2, "abcd", "d,c,c,b,b,d,d,a"), 0, 7, 8);
        Due.pairIs("two of the last", Due.with(2, "abcd", "c,c,c,a,a,d,d,a"), 5, 7, 6);
        // what SOONEST costs would be least by 0 and 1
        Due.pairIs("by LEAST, not by SOONEST", Due.with(4, "acd", "c,ab,c,bd,ab"), 0, 3, 8);
    }

    private static void betterLesserFirst() {
        Sentences.test(T, "of like ones that of the lesser first PLACE,");
        // a,b,a,b becomes b,b,a,a or a,a,b,b: both cost 3
        Due.pairIs("though its second is greater", Due.with(2, "b", "a,b,a,b"), 0, 3, 3);
        Due.pairIs("0 and 1, or 1 and 2", Due.with(2, "b", "a,b,a"), 0, 1, 3);
    }

    private static void betterLesserSecond() {
        Sentences.test(T, "then of the lesser second one;");
        // a,b,a,c becomes b,a,a,c or c,b,a,a (or a,a,b,c): all cost 6
        Due.pairIs("0 and 1, or 0 and 3", Due.with(2, "abc", "a,b,a,c"), 0, 1, 6);
        Due.pairIs("0 and 2, or 0 and 4", Due.with(2, "abc", "a,b,b,a,c"), 0, 2, 6);
    }

    private static void betterNone() {
        Sentences.test(T, "none, if it does not become less than it is.");
        Due.pairIs("one JOB", Due.of("a"), NONE, NONE, NONE);
        Due.pairIs("all cost the same", Due.of("a,b,c"), NONE, NONE, NONE);
        Due.pairIs("all others cost more", Due.with(2, "b", "b,b,a,a"), NONE, NONE, NONE);
        Due.pairIs("like JOBS", Due.of("a,a,a,a,a,a,a,a"), NONE, NONE, NONE);
        Due.pairIs("two JOBS", Due.with(2, "b", "a,b"), NONE, NONE, NONE);
        Due.pairIs("two JOBS with a BREAK", broken(2, "", "a,ab", 0, 0), NONE, NONE, NONE);
        PocketKeeper x = Due.with(2, "", "ab,cd,ab");
        Due.due("better()", x.better(), 4);
        Due.pairIs("it is the least already", x, NONE, NONE, NONE);
    }
}
