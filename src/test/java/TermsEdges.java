/** Boundary cases of the document's "Terms": tools, pockets, jobs, breaks, refusals. */
final class TermsEdges {
    private static final int T = Sentences.TERMS;
    private static final int UNKNOWN = PocketKeeper.UNKNOWN;
    private static final int OUTSIDE = PocketKeeper.OUTSIDE;
    private static final int STATE = PocketKeeper.STATE;

    private TermsEdges() {
    }

    static void all() {
        toolsAreEight();
        slimAtFirstOrBig();
        pocketsTwoToTwelve();
        magazineHoldsNoMore();
        oneToEightJobs();
        oneToEightLetters();
        lettersRise();
        placesFromZero();
        tooBigIsMoreThanPockets();
        breakIsBehindTheJob();
        breakOnlyIfItIsThere();
        breakStaysWithThePlace();
        firstRefusalOfSeveral();
        refusalsChangeNothing();
    }

    private static void toolsAreEight() {
        Sentences.test(T, "TOOLS are eight, \"a\" to \"h\", numbered from 0;");
        PocketKeeper x = new PocketKeeper();
        for (int tool = 0; tool < 8; tool++) {
            x.letter('a' + tool);
            Due.due("jobs() of tool " + tool, x.jobs(), 1);
            Due.due("job(0, 0) of tool " + tool, x.job(0, 0), 1 << tool);
            Due.due("as(" + tool + ", 0)", x.as(tool, 0), tool);
        }
        Due.due("as(-1, 0)", x.as(-1, 0), UNKNOWN);
        Due.due("as(8, 0)", x.as(8, 0), UNKNOWN);
        for (int code : new int[] {'a' - 1, 'h' + 1, 'A', 'H'}) {
            x.blank();
            x.letter(code);
            Due.due("jobs() of code " + code, x.jobs(), STATE);
        }
    }

    private static void slimAtFirstOrBig() {
        Sentences.test(T, "each is SLIM (at first: SIZE 1) or BIG (SIZE 2).");
        PocketKeeper x = Due.with(12, "", "abcdefgh");
        Due.due("count(3) at first", x.count(3), 0);
        Due.due("BOUND at first", x.cost(2), 8);
        for (int tool = 0; tool < 8; tool++) {
            Due.due("as(" + tool + ", 1) at first", x.as(tool, 1), tool);
        }
        for (int tool = 0; tool < 4; tool++) {
            x.big(tool, true);
            Due.due("BOUND with tool " + tool + " BIG", x.cost(2), 9 + tool);
        }
        x.big(0, true);
        Due.due("BOUND, made BIG twice", x.cost(2), 12);
        x.big(0, false);
        x.big(0, false);
        Due.due("BOUND, made SLIM twice", x.cost(2), 11);
    }

    private static void pocketsTwoToTwelve() {
        Sentences.test(T, "POCKETS (2 to 12; 4 at first):");
        PocketKeeper x = new PocketKeeper();
        Due.due("count(2) at first", x.count(2), 4);
        Due.due("pockets(1)", x.pockets(1), OUTSIDE);
        Due.due("pockets(13)", x.pockets(13), OUTSIDE);
        int before = 4;
        for (int v = 2; v <= 12; v++) {
            Due.due("pockets(" + v + ")", x.pockets(v), before);
            before = v;
        }
    }

    private static void magazineHoldsNoMore() {
        Sentences.test(T, "the SIZES of TOOLS in the magazine are no more than these together.");
        Due.soonestIs("just full", Due.with(3, "", "ab,c"), 1, "abc", "c", "", 1);
        Due.soonestIs("one too much", Due.with(2, "", "ab,c"), 1, "ac", "c", "b", 1);
        Due.soonestIs("just full with a BIG one", Due.with(5, "d", "abc,d"), 1, "abcd", "d", "", 2);
        Due.soonestIs("one pocket left for a BIG one", Due.with(4, "d", "abc,d"), 1, "abd", "d", "c", 2);
        Due.soonestIs("all twelve", Due.with(12, "abcd", "abcdefg,h"), 1, "abcdefgh", "h", "", 1);
        Due.soonestIs("one more than twelve", Due.with(12, "abcde", "abcdefg,h"), 1, "abcdfgh", "h", "e", 1);
        Due.due("LEAST, just full", Due.with(3, "", "ab,c,ab").cost(1), 3);
        Due.due("LEAST, one too much", Due.with(2, "", "ab,c,ab").cost(1), 4);
        Due.due("LEAST, just full with a BIG one", Due.with(4, "c", "ab,c,ab").cost(1), 4);
        Due.due("LEAST, one pocket left for a BIG one", Due.with(3, "c", "ab,c,ab").cost(1), 5);
    }

    private static void jobsAre(String text, int want) {
        PocketKeeper x = new PocketKeeper();
        Due.write(x, text);
        Due.due("jobs() of '" + text + "'", x.jobs(), want);
        Due.due("count(0) behind '" + text + "'", x.count(0), want == STATE ? 0 : want);
    }

    private static void oneToEightJobs() {
        Sentences.test(T, "JOBS are a text: one to eight with \",\" between,");
        jobsAre("", STATE);
        jobsAre("a", 1);
        jobsAre("a,b", 2);
        jobsAre("ab", 1);
        jobsAre("a,b,c,d,e,f,g,h", 8);
        jobsAre("a,b,c,d,e,f,g,h,a", STATE);
        jobsAre("a,b,c,d,e,f,g,h,", STATE);
        jobsAre("a,", STATE);
        jobsAre(",a", STATE);
        jobsAre("a,,b", STATE);
        jobsAre("a;b", STATE);
        jobsAre("a b", STATE);
        jobsAre("a, b", STATE);
        jobsAre("a+b", STATE);
        jobsAre("a-b", STATE);
    }

    private static void oneToEightLetters() {
        Sentences.test(T, "each one to eight letters \"a\" to \"h\",");
        jobsAre(",", STATE);
        jobsAre("h", 1);
        jobsAre("abcdefgh", 1);
        jobsAre("abcdefghh", STATE);
        jobsAre("abcdefghi", STATE);
        jobsAre("`", STATE);
        jobsAre("`a", STATE);
        jobsAre("i", STATE);
        jobsAre("hi", STATE);
        jobsAre("B", STATE);
        jobsAre("a,i", STATE);
        jobsAre("abcdefgh,abcdefgh,abcdefgh,abcdefgh,abcdefgh,abcdefgh,abcdefgh,abcdefgh", 8);
    }

    private static void lettersRise() {
        Sentences.test(T, "rising: the TOOLS that it NEEDS.");
        jobsAre("aa", STATE);
        jobsAre("hh", STATE);
        jobsAre("ba", STATE);
        jobsAre("acb", STATE);
        jobsAre("aba", STATE);
        jobsAre("a,ba", STATE);
        jobsAre("h,a", 2);
        jobsAre("a,a", 2);
        Due.due("needs of 'ah'", Due.of("ah").job(0, 0), 129);
        Due.due("needs of 'abcdefgh'", Due.of("abcdefgh").job(0, 0), 255);
        Due.due("needs of 'g' behind 'h'", Due.of("h,g").job(1, 0), 64);
    }

    private static void placesFromZero() {
        Sentences.test(T, "They are done in their ORDER, at PLACES from 0 on (as they are told, at first).");
        PocketKeeper x = Due.of("c,a,b");
        String[] needs = {"c", "a", "b"};
        for (int place = 0; place < 3; place++) {
            Due.due("job(" + place + ", 1)", x.job(place, 1), place);
            Due.due("job(" + place + ", 0)", x.job(place, 0), Due.bits(needs[place]));
            Due.due("soonest(" + place + ", 1)", x.soonest(place, 1), Due.bits(needs[place]));
        }
        Due.due("job(-1, 1)", x.job(-1, 1), UNKNOWN);
        Due.due("job(3, 1)", x.job(3, 1), UNKNOWN);
        x.swap(0, 1);
        Due.due("soonest(0, 1) in another ORDER", x.soonest(0, 1), Due.bits("a"));
        Due.due("soonest(1, 1) in another ORDER", x.soonest(1, 1), Due.bits("c"));
        Due.due("job(7, 1) of eight", Due.of("a,a,a,a,a,a,a,a").job(7, 1), 7);
    }

    private static void tooBigIs(int pockets, String big, String jobs, int want) {
        PocketKeeper x = Due.with(pockets, big, jobs);
        String name = jobs + " in " + pockets + " with BIG " + big;
        Due.due("count(7) of " + name, x.count(7), want);
        Due.holds("cost(0) of " + name, (x.cost(0) == STATE) == (want == 1));
    }

    private static void tooBigIsMoreThanPockets() {
        Sentences.test(T, "JOBS are TOO BIG, if the SIZES of TOOLS that one NEEDS are more than POCKETS together.");
        tooBigIs(2, "", "ab", 0);
        tooBigIs(2, "", "abc", 1);
        tooBigIs(2, "b", "ab", 1);
        tooBigIs(3, "b", "ab", 0);
        tooBigIs(2, "a", "a", 0);
        tooBigIs(2, "c", "ab", 0);
        tooBigIs(2, "", "ab,cd,ef,gh", 0);
        tooBigIs(2, "", "abc,a,b", 1);
        tooBigIs(2, "", "a,abc,b", 1);
        tooBigIs(2, "", "a,b,abc", 1);
        tooBigIs(7, "", "abcdefgh", 1);
        tooBigIs(8, "", "abcdefgh", 0);
        tooBigIs(12, "abcd", "abcdefgh", 0);
        tooBigIs(11, "abcd", "abcdefgh", 1);
        tooBigIs(12, "abcde", "abcdefgh", 1);
        tooBigIs(12, "abcdef", "abcdef", 0);
        tooBigIs(12, "abcdefgh", "abcdefg", 1);
        Due.due("count(7) with no JOBS", new PocketKeeper().count(7), 0);
    }

    private static void breakIsBehindTheJob() {
        Sentences.test(T, "A BREAK (at a PLACE, of a TOOL): behind the JOB at that PLACE that TOOL is gone from the magazine,");
        PocketKeeper x = Due.of("a,a,a");
        Due.soonestIs("with no BREAK yet", x, 1, "a", "", "", 0);
        x.breaks(0, 0, true);
        Due.soonestIs("at the PLACE of the BREAK", x, 0, "a", "a", "", 1);
        Due.soonestIs("behind the BREAK", x, 1, "a", "a", "", 1);
        Due.soonestIs("with no BREAK behind", x, 2, "a", "", "", 0);
        Due.planIs("at the PLACE of the BREAK", x, 0, "a", "a", "", 1);
        Due.planIs("behind the BREAK", x, 1, "a", "a", "", 1);
        Due.planIs("with no BREAK behind", x, 2, "a", "", "", 0);
        PocketKeeper last = Due.of("a,a,a");
        last.breaks(2, 0, true);
        Due.costsAre("a BREAK at the last PLACE", last, 1, 1, 1, 1, 1);
        PocketKeeper other = Due.of("ab,ab");
        other.breaks(0, 1, true);
        Due.soonestIs("that TOOL alone", other, 1, "ab", "b", "", 1);
    }

    private static void breakOnlyIfItIsThere() {
        Sentences.test(T, "if it is there.");
        PocketKeeper x = Due.of("a,b,b");
        x.breaks(0, 1, true);
        x.breaks(0, 7, true);
        x.breaks(1, 7, true);
        Due.soonestIs("a BREAK of what is not there yet", x, 1, "ab", "b", "", 1);
        Due.soonestIs("a BREAK of what is not there yet", x, 2, "ab", "", "", 0);
        Due.costsAre("a BREAK of what is not there", x, 2, 2, 2, 2, 2);
        PocketKeeper gone = Due.with(2, "", "ab,c,b");
        gone.breaks(1, 1, true);
        Due.soonestIs("it goes ahead of its BREAK", gone, 1, "ac", "c", "b", 1);
        Due.soonestIs("it comes behind its BREAK", gone, 2, "ab", "b", "c", 1);
    }

    private static void breakStaysWithThePlace() {
        Sentences.test(T, "(It stays with the PLACE, whichever JOB is there.)");
        PocketKeeper x = Due.of("a,b,a");
        x.breaks(0, 0, true);
        Due.due("LEAST ahead of swap()", x.cost(1), 3);
        x.swap(0, 1);
        Due.due("job(0, 2) behind swap()", x.job(0, 2), 1);
        Due.due("job(1, 2) behind swap()", x.job(1, 2), 0);
        Due.due("LEAST behind swap()", x.cost(1), 2);
        PocketKeeper y = Due.with(2, "b", "b,b,a,a");
        y.breaks(0, 1, true);
        Due.due("better()", y.better(), 4);
        Due.due("job(0, 0) behind better()", y.job(0, 0), 1);
        Due.due("job(0, 2) behind better()", y.job(0, 2), 2);
        Due.due("job(2, 2) behind better()", y.job(2, 2), 0);
    }

    private static void firstRefusalOfSeveral() {
        Sentences.test(T, "Refusals, of several the first as told by each call: UNKNOWN (a number names nothing), OUTSIDE (it is not as told), STATE (as told), FULL;");
        PocketKeeper none = new PocketKeeper();
        Due.due("as(8, 3)", none.as(8, 3), UNKNOWN);
        Due.due("job(0, 3) with no JOBS", none.job(0, 3), UNKNOWN);
        Due.due("soonest(0, 4) with no JOBS", none.soonest(0, 4), UNKNOWN);
        Due.due("plan(0, 4) with no JOBS", none.plan(0, 4), UNKNOWN);
        Due.due("cost(5) with no JOBS", none.cost(5), OUTSIDE);
        Due.due("pair(3) with no JOBS", none.pair(3), OUTSIDE);
        PocketKeeper tooBig = Due.of("a,abcdefgh");
        Due.due("soonest(2, 4), TOO BIG", tooBig.soonest(2, 4), UNKNOWN);
        Due.due("soonest(1, 4), TOO BIG", tooBig.soonest(1, 4), OUTSIDE);
        Due.due("soonest(1, 3), TOO BIG", tooBig.soonest(1, 3), STATE);
        Due.due("plan(2, 4), TOO BIG", tooBig.plan(2, 4), UNKNOWN);
        Due.due("plan(1, 4), TOO BIG", tooBig.plan(1, 4), OUTSIDE);
        Due.due("plan(1, 3), TOO BIG", tooBig.plan(1, 3), STATE);
        Due.due("cost(5), TOO BIG", tooBig.cost(5), OUTSIDE);
        Due.due("cost(4), TOO BIG", tooBig.cost(4), STATE);
        Due.due("pair(3), TOO BIG", tooBig.pair(3), OUTSIDE);
        Due.due("pair(2), TOO BIG", tooBig.pair(2), STATE);
        Due.write(none, "~".repeat(71));
        Due.due("letter(127) on a full page", none.letter(127), OUTSIDE);
        Due.due("letter(126) on a full page", none.letter(126), PocketKeeper.FULL);
    }

    private static void refusalsChangeNothing() {
        Sentences.test(T, "they change nothing.");
        refuseAll("no JOBS", new PocketKeeper(), 0);
        PocketKeeper x = Due.with(3, "b", "ab,c,ab");
        x.breaks(1, 0, true);
        x.swap(0, 2);
        Due.write(x, "a,b,");
        refuseAll("three JOBS", x, 3);
        PocketKeeper tooBig = Due.of("a,abcdefgh");
        Due.write(tooBig, "~".repeat(71));
        refuseAll("TOO BIG", tooBig, 2);
        Due.changesNothing("letter() on a full page", tooBig, () -> tooBig.letter('a'));
        Due.changesNothing("keeping, TOO BIG", tooBig, () -> {
            tooBig.soonest(0, 0);
            tooBig.plan(0, 0);
            tooBig.cost(0);
            tooBig.mean();
            tooBig.ratio();
            tooBig.pair(0);
            tooBig.better();
        });
    }

    private static void refuseAll(String name, PocketKeeper x, int places) {
        Due.changesNothing("letter(), " + name, x, () -> x.letter(31));
        Due.changesNothing("jobs(), " + name, x, x::jobs);
        Due.changesNothing("big(), " + name, x, () -> x.big(8, true));
        Due.changesNothing("pockets(), " + name, x, () -> x.pockets(13));
        Due.changesNothing("breaks() at no PLACE, " + name, x, () -> x.breaks(places, 0, true));
        Due.changesNothing("breaks() of no TOOL, " + name, x, () -> x.breaks(0, 8, true));
        Due.changesNothing("swap() of no first PLACE, " + name, x, () -> x.swap(places, 0));
        Due.changesNothing("swap() of no second PLACE, " + name, x, () -> x.swap(0, places));
        Due.changesNothing("questions, " + name, x, () -> {
            x.as(8, 0);
            x.job(places, 0);
            x.next(places, 0);
            x.soonest(places, 0);
            x.plan(places, 0);
            x.cost(5);
            x.pair(3);
            x.count(8);
        });
    }
}
