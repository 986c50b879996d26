import java.math.BigInteger;
import java.util.ArrayList;
import java.util.List;

/** Boundary cases of promises 10 to 21: tools, jobs, keeping, what is told of all. */
final class AnswersEdges {
    private static final int NONE = PocketKeeper.NONE;
    private static final int UNKNOWN = PocketKeeper.UNKNOWN;
    private static final int OUTSIDE = PocketKeeper.OUTSIDE;
    private static final int STATE = PocketKeeper.STATE;
    private static final int[] NO_TOOLS = {-1, 8, 32, -32, Integer.MIN_VALUE, Integer.MAX_VALUE};
    /** No places of three jobs. */
    private static final int[] NO_PLACES = {-1, 3, 7, 8, Integer.MIN_VALUE, Integer.MAX_VALUE};

    private AnswersEdges() {
    }

    static void all() {
        asOwnNumber();
        asNone();
        asRefusals();
        jobNeeds();
        jobNumber();
        jobBreaks();
        jobRefusals();
        nextPlace();
        nextNever();
        nextUnknown();
        soonestInside();
        soonestComes();
        soonestGoes();
        soonestCosts();
        soonestRefusals();
        planAnswers();
        planRefusals();
        costs();
        costRefusals();
        mean();
        ratio();
        pair();
        pairRefusals();
        better();
        betterNone();
        betterState();
        counts();
        countOutside();
        digestFolds();
        digestOfRow();
        digestOfKeeping();
        digestOfPageAndCounts();
    }

    // ---- 10 to 12

    private static void asOwnNumber() {
        Sentences.test(10, "A TOOL taken as a KIND (0 any, 1 SLIM, 2 BIG): its own number, not that of the KIND;");
        PocketKeeper x = new PocketKeeper();
        for (int tool = 0; tool < 8; tool++) {
            Due.due("as(" + tool + ", 0), SLIM", x.as(tool, 0), tool);
            Due.due("as(" + tool + ", 1), SLIM", x.as(tool, 1), tool);
            x.big(tool, true);
            Due.due("as(" + tool + ", 0), BIG", x.as(tool, 0), tool);
            Due.due("as(" + tool + ", 2), BIG", x.as(tool, 2), tool);
        }
    }

    private static void asNone() {
        Sentences.test(10, "NONE: it is none such (it cannot be stored there).");
        PocketKeeper x = new PocketKeeper();
        for (int tool = 0; tool < 8; tool++) {
            Due.due("as(" + tool + ", 2), SLIM", x.as(tool, 2), NONE);
            x.big(tool, true);
            Due.due("as(" + tool + ", 1), BIG", x.as(tool, 1), NONE);
            x.big(tool, false);
            Due.due("as(" + tool + ", 2), SLIM again", x.as(tool, 2), NONE);
        }
    }

    private static void asRefusals() {
        Sentences.test(10, "UNKNOWN: tool;");
        PocketKeeper x = new PocketKeeper();
        for (int tool : NO_TOOLS) {
            for (int kind = -1; kind <= 3; kind++) {
                Due.due("as(" + tool + ", " + kind + ")", x.as(tool, kind), UNKNOWN);
            }
        }
        Sentences.test(10, "OUTSIDE: kind.");
        for (int kind : new int[] {-1, 3, Integer.MIN_VALUE, Integer.MAX_VALUE}) {
            Due.due("as(0, " + kind + ")", x.as(0, kind), OUTSIDE);
            Due.due("as(7, " + kind + ")", x.as(7, kind), OUTSIDE);
        }
    }

    private static void jobNeeds() {
        Sentences.test(11, "Of a PLACE: what = 0 what its JOB NEEDS, as bits,");
        PocketKeeper x = Due.of("a,h,abcdefgh");
        Due.due("job(0, 0)", x.job(0, 0), 1);
        Due.due("job(1, 0)", x.job(1, 0), 128);
        Due.due("job(2, 0), TOO BIG", x.job(2, 0), 255);
        x.swap(0, 2);
        Due.due("job(0, 0) behind swap()", x.job(0, 0), 255);
    }

    private static void jobNumber() {
        Sentences.test(11, "1 the number of that JOB, as it was told,");
        PocketKeeper x = Due.of("a,a,a,a,a,a,a,a");
        x.swap(0, 7);
        x.swap(7, 3);
        Due.due("job(0, 1)", x.job(0, 1), 7);
        Due.due("job(7, 1)", x.job(7, 1), 3);
        Due.due("job(3, 1)", x.job(3, 1), 0);
        Due.due("job(1, 1)", x.job(1, 1), 1);
    }

    private static void jobBreaks() {
        Sentences.test(11, "2 BREAKS at it, as bits of TOOLS.");
        PocketKeeper x = Due.of("a,b,c");
        Due.due("job(2, 2) of none", x.job(2, 2), 0);
        x.breaks(2, 0, true);
        x.breaks(2, 7, true);
        Due.due("job(2, 2) of two", x.job(2, 2), 129);
        Due.due("job(1, 2)", x.job(1, 2), 0);
        for (int tool = 0; tool < 8; tool++) {
            x.breaks(0, tool, true);
        }
        Due.due("job(0, 2) of all", x.job(0, 2), 255);
        x.swap(0, 1);
        Due.due("job(0, 2) behind swap()", x.job(0, 2), 255);
        Due.due("job(1, 2) behind swap()", x.job(1, 2), 0);
    }

    private static void jobRefusals() {
        PocketKeeper x = Due.of("a,b,c");
        Sentences.test(11, "UNKNOWN: place;");
        for (int place : NO_PLACES) {
            for (int what = -1; what <= 3; what++) {
                Due.due("job(" + place + ", " + what + ")", x.job(place, what), UNKNOWN);
            }
        }
        Due.due("with no JOBS", new PocketKeeper().job(0, 0), UNKNOWN);
        Sentences.test(11, "OUTSIDE: what.");
        for (int what : new int[] {-1, 3, Integer.MIN_VALUE, Integer.MAX_VALUE}) {
            Due.due("job(0, " + what + ")", x.job(0, what), OUTSIDE);
            Due.due("job(2, " + what + ")", x.job(2, what), OUTSIDE);
        }
    }

    private static void nextPlace() {
        Sentences.test(12, "NEXT of a TOOL at a PLACE;");
        PocketKeeper x = Due.of("a,b,a,abcdefgh");
        Due.due("next(0, 0)", x.next(0, 0), 2);
        Due.due("next(2, 0), though TOO BIG", x.next(2, 0), 3);
        Due.due("next(0, 7), up to the last PLACE", x.next(0, 7), 3);
        Due.due("next(0, 1)", x.next(0, 1), 1);
    }

    private static void nextNever() {
        Sentences.test(12, "NONE: never.");
        PocketKeeper x = Due.of("a,b,a");
        for (int tool = 0; tool < 8; tool++) {
            Due.due("next(2, " + tool + ") at the last PLACE", x.next(2, tool), NONE);
        }
        Due.due("next(0, 7), of no use", x.next(0, 7), NONE);
        Due.due("next(1, 1), no more", x.next(1, 1), NONE);
        x.breaks(0, 0, true);
        Due.due("next(0, 0), a BREAK", x.next(0, 0), NONE);
    }

    private static void nextUnknown() {
        Sentences.test(12, "UNKNOWN: place, tool.");
        PocketKeeper x = Due.of("a,b,c");
        for (int place : NO_PLACES) {
            Due.due("next(" + place + ", 0)", x.next(place, 0), UNKNOWN);
        }
        for (int tool : NO_TOOLS) {
            Due.due("next(0, " + tool + ")", x.next(0, tool), UNKNOWN);
            Due.due("next(2, " + tool + ")", x.next(2, tool), UNKNOWN);
        }
        Due.due("with no JOBS", new PocketKeeper().next(0, 0), UNKNOWN);
    }

    // ---- 13 to 19

    private static void soonestInside() {
        Sentences.test(13, "SOONEST at a PLACE: what = 0 what is in the magazine while the JOB is done,");
        PocketKeeper x = Due.with(2, "", "ab,c,b,a");
        x.breaks(2, 2, true);
        String[] inside = {"ab", "bc", "bc", "ab"};
        for (int place = 0; place < 4; place++) {
            Due.due("soonest(" + place + ", 0)", x.soonest(place, 0), Due.bits(inside[place]));
        }
        Due.due("all eight", Due.with(8, "", "abcdefgh").soonest(0, 0), 255);
    }

    private static void soonestComes() {
        Sentences.test(13, "1 what COMES,");
        PocketKeeper x = Due.with(2, "", "ab,b,c,a");
        String[] comes = {"ab", "", "c", ""};
        for (int place = 0; place < 4; place++) {
            Due.due("soonest(" + place + ", 1)", x.soonest(place, 1), Due.bits(comes[place]));
        }
        Due.due("all eight", Due.with(8, "", "abcdefgh").soonest(0, 1), 255);
    }

    private static void soonestGoes() {
        Sentences.test(13, "2 what goes ahead of that, all as bits of TOOLS,");
        PocketKeeper x = Due.with(2, "", "ab,b,c,a,b");
        String[] goes = {"", "", "b", "", "c"};
        for (int place = 0; place < 5; place++) {
            Due.due("soonest(" + place + ", 2)", x.soonest(place, 2), Due.bits(goes[place]));
        }
        x.breaks(1, 1, true);
        Due.due("what broke does not go", x.soonest(2, 2), 0);
        Due.due("all four", Due.of("efgh,abcd").soonest(1, 2), 0xf0);
    }

    private static void soonestCosts() {
        Sentences.test(13, "3 what it costs there.");
        PocketKeeper x = Due.with(4, "bc", "ab,b,c,ah");
        int[] costs = {3, 0, 2, 1};
        for (int place = 0; place < 4; place++) {
            Due.due("soonest(" + place + ", 3)", x.soonest(place, 3), costs[place]);
        }
        Due.due("the most", Due.with(12, "abcd", "abcdefgh").soonest(0, 3), 12);
    }

    private static void soonestRefusals() {
        PocketKeeper x = Due.of("a,b,c");
        PocketKeeper tooBig = Due.of("a,b,abcde");
        Sentences.test(13, "UNKNOWN: place;");
        for (int place : NO_PLACES) {
            Due.due("soonest(" + place + ", 0)", x.soonest(place, 0), UNKNOWN);
            Due.due("soonest(" + place + ", 4)", x.soonest(place, 4), UNKNOWN);
            Due.due("soonest(" + place + ", 0), TOO BIG", tooBig.soonest(place, 0), UNKNOWN);
        }
        Due.due("with no JOBS", new PocketKeeper().soonest(0, 0), UNKNOWN);
        Sentences.test(13, "OUTSIDE: what;");
        for (int what : new int[] {-1, 4, Integer.MIN_VALUE, Integer.MAX_VALUE}) {
            Due.due("soonest(2, " + what + ")", x.soonest(2, what), OUTSIDE);
            Due.due("soonest(0, " + what + "), TOO BIG", tooBig.soonest(0, what), OUTSIDE);
        }
        Sentences.test(13, "STATE: JOBS are TOO BIG.");
        for (int what = 0; what < 4; what++) {
            Due.due("soonest(0, " + what + "), TOO BIG", tooBig.soonest(0, what), STATE);
            Due.due("soonest(2, " + what + "), TOO BIG", tooBig.soonest(2, what), STATE);
        }
        tooBig.pockets(5);
        Due.soonestIs("no more TOO BIG", tooBig, 2, "abcde", "cde", "", 3);
    }

    private static void planAnswers() {
        Sentences.test(14, "THE PLAN at a PLACE: what as for soonest().");
        PocketKeeper x = Due.with(4, "ab", "a,bc,d,a,bc");
        Due.planIs("", x, 0, "a", "a", "", 2);
        Due.planIs("", x, 1, "bc", "bc", "a", 3);
        Due.planIs("", x, 2, "bd", "d", "c", 1);
        Due.planIs("", x, 3, "ab", "a", "d", 2);
        Due.planIs("", x, 4, "bc", "c", "a", 1);
        PocketKeeper broken = Due.with(3, "", "ab,c,ab");
        broken.breaks(0, 1, true);
        Due.planIs("what broke does not go", broken, 1, "ac", "c", "", 1);
        Due.planIs("what broke COMES", broken, 2, "ab", "b", "c", 1);
        Due.planIs("all eight", Due.with(12, "abcd", "abcdefgh"), 0, "abcdefgh", "abcdefgh", "", 12);
        PocketKeeper pairAsked = Due.with(2, "", "ab,c,b,a");
        pairAsked.pair(0);
        Due.planIs("behind pair()", pairAsked, 1, "ac", "c", "b", 1);
    }

    private static void planRefusals() {
        PocketKeeper x = Due.of("a,b,c");
        PocketKeeper tooBig = Due.of("a,b,abcde");
        Sentences.test(14, "UNKNOWN: place;");
        for (int place : NO_PLACES) {
            Due.due("plan(" + place + ", 0)", x.plan(place, 0), UNKNOWN);
            Due.due("plan(" + place + ", 4)", x.plan(place, 4), UNKNOWN);
            Due.due("plan(" + place + ", 0), TOO BIG", tooBig.plan(place, 0), UNKNOWN);
        }
        Due.due("with no JOBS", new PocketKeeper().plan(0, 0), UNKNOWN);
        Sentences.test(14, "OUTSIDE: what;");
        for (int what : new int[] {-1, 4, Integer.MIN_VALUE, Integer.MAX_VALUE}) {
            Due.due("plan(2, " + what + ")", x.plan(2, what), OUTSIDE);
            Due.due("plan(0, " + what + "), TOO BIG", tooBig.plan(0, what), OUTSIDE);
        }
        Sentences.test(14, "STATE: JOBS are TOO BIG.");
        for (int what = 0; what < 4; what++) {
            Due.due("plan(0, " + what + "), TOO BIG", tooBig.plan(0, what), STATE);
            Due.due("plan(2, " + what + "), TOO BIG", tooBig.plan(2, what), STATE);
        }
        tooBig.pockets(5);
        Due.planIs("no more TOO BIG", tooBig, 2, "abcde", "cde", "", 3);
    }

    private static void costs() {
        PocketKeeper x = Due.with(3, "ac", "h,a,c,a,h");
        PocketKeeper y = Due.with(9, "abcdh", "egh,efh,abce,cdfgh");
        PocketKeeper one = Due.with(2, "h", "h");
        Sentences.test(15, "In all: what = 0 what SOONEST costs,");
        Due.due("cost(0), more than LEAST", x.cost(0), 8);
        Due.due("cost(0), LEAST itself", y.cost(0), 15);
        Due.due("cost(0) of one JOB", one.cost(0), 2);
        Sentences.test(15, "1 LEAST,");
        Due.due("cost(1), less than SOONEST", x.cost(1), 7);
        Due.due("cost(1), as SOONEST", y.cost(1), 15);
        Due.due("cost(1) of one JOB", one.cost(1), 2);
        Sentences.test(15, "2 BOUND,");
        Due.due("cost(2), less than LEAST", x.cost(2), 5);
        Due.due("cost(2), less than LEAST", y.cost(2), 13);
        Due.due("cost(2), as LEAST", one.cost(2), 2);
        Sentences.test(15, "3 how many TOOLS COME by SOONEST,");
        Due.due("cost(3), more than by THE PLAN", x.cost(3), 5);
        Due.due("cost(3), fewer than by THE PLAN", y.cost(3), 9);
        Due.due("cost(3), a BIG one is one", one.cost(3), 1);
        Sentences.test(15, "4 by THE PLAN.");
        Due.due("cost(4), fewer than by SOONEST", x.cost(4), 4);
        Due.due("cost(4), more than by SOONEST", y.cost(4), 10);
        Due.due("cost(4), a BIG one is one", one.cost(4), 1);
    }

    private static void costRefusals() {
        Sentences.test(15, "OUTSIDE: what;");
        PocketKeeper none = new PocketKeeper();
        PocketKeeper x = Due.of("a,b,c");
        PocketKeeper tooBig = Due.of("a,b,abcde");
        for (int what : new int[] {-1, 5, Integer.MIN_VALUE, Integer.MAX_VALUE}) {
            Due.due("cost(" + what + ")", x.cost(what), OUTSIDE);
            Due.due("cost(" + what + ") with no JOBS", none.cost(what), OUTSIDE);
            Due.due("cost(" + what + "), TOO BIG", tooBig.cost(what), OUTSIDE);
        }
        Sentences.test(15, "STATE: no JOBS, or they are TOO BIG.");
        for (int what = 0; what < 5; what++) {
            Due.due("cost(" + what + ") with no JOBS", none.cost(what), STATE);
            Due.due("cost(" + what + "), TOO BIG", tooBig.cost(what), STATE);
        }
        tooBig.pockets(5);
        Due.costsAre("no more TOO BIG", tooBig, 5, 5, 5, 5, 5);
    }

    private static void mean() {
        Sentences.test(16, "What SOONEST costs (as a double), divided by how many JOBS there are: the double bits.");
        Due.due("the least, an eighth", Due.of("a,a,a,a,a,a,a,a").mean(), Double.doubleToLongBits(0.125));
        Due.due("the most, twelve", Due.with(12, "abcd", "abcdefgh").mean(), Double.doubleToLongBits(12.0));
        Due.due("one", Due.of("a,b").mean(), Double.doubleToLongBits(1.0));
        Due.due("just below one", Due.with(7, "", "abcdefg,a,a,a,a,a,a,a").mean(), Double.doubleToLongBits(0.875));
        Due.due("of SOONEST, not of LEAST", Due.with(3, "ac", "h,a,c,a,h").mean(), Double.doubleToLongBits(1.6));
        for (int many = 1; many <= 8; many++) {
            StringBuilder jobs = new StringBuilder("a");
            for (int i = 1; i < many; i++) {
                jobs.append(",a");
            }
            for (int more = 0; more < 8; more++) {
                String text = jobs + "bcdefgh".substring(0, more);
                Due.due("mean() of " + text, Due.with(8, "", text).mean(), Double.doubleToLongBits((1.0 + more) / many));
            }
        }
        Sentences.test(16, "STATE: as for cost().");
        Due.due("with no JOBS", new PocketKeeper().mean(), STATE);
        PocketKeeper tooBig = Due.of("a,b,abcde");
        Due.due("TOO BIG", tooBig.mean(), STATE);
        tooBig.pockets(5);
        Due.due("no more TOO BIG", tooBig.mean(), Double.doubleToLongBits(5.0 / 3.0));
    }

    private static void ratio() {
        Sentences.test(17, "What SOONEST costs (as a float), divided by LEAST: the float bits.");
        Due.due("one", Due.of("a").ratio(), Float.floatToIntBits(1.0f));
        Due.due("eight sevenths", Due.with(3, "ac", "h,a,c,a,h").ratio(), Float.floatToIntBits(8.0f / 7.0f));
        Due.due("ten ninths", Due.with(4, "ab", "a,bc,d,a,bc").ratio(), Float.floatToIntBits(10.0f / 9.0f));
        Due.due("six fifths", Due.with(3, "b", "a,b,d,ab").ratio(), Float.floatToIntBits(1.2f));
        Due.due("five quarters", Due.with(5, "cd", "bd,ac,bd,ac").ratio(), Float.floatToIntBits(1.25f));
        Due.due("one, of the most", Due.with(12, "abcd", "abcdefgh").ratio(), Float.floatToIntBits(1.0f));
        Sentences.test(17, "STATE: as for cost().");
        Due.due("with no JOBS", new PocketKeeper().ratio(), STATE);
        PocketKeeper tooBig = Due.of("a,b,abcde");
        Due.due("TOO BIG", tooBig.ratio(), STATE);
        tooBig.pockets(5);
        Due.due("no more TOO BIG", tooBig.ratio(), Float.floatToIntBits(1.0f));
    }

    private static void pair() {
        PocketKeeper x = Due.with(2, "abcd", "d,c,c,b,b,d,d,a");
        Sentences.test(18, "BETTER: what = 0 the first PLACE,");
        Due.due("pair(0)", x.pair(0), 0);
        Due.due("pair(0), not PLACE 0", Due.with(2, "abcd", "c,c,c,a,a,d,d,a").pair(0), 5);
        Sentences.test(18, "1 the second one,");
        Due.due("pair(1), the last PLACE", x.pair(1), 7);
        Sentences.test(18, "2 LEAST by it;");
        Due.due("pair(2)", x.pair(2), 8);
        Due.due("LEAST stays", x.cost(1), 10);
        Due.changesNothing("pair()", x, () -> x.pair(2));
        Sentences.test(18, "NONE.");
        Due.pairIs("one JOB", Due.of("a"), NONE, NONE, NONE);
        Due.pairIs("no pair costs less", Due.with(2, "b", "b,b,a,a"), NONE, NONE, NONE);
    }

    private static void pairRefusals() {
        Sentences.test(18, "OUTSIDE: what;");
        PocketKeeper none = new PocketKeeper();
        PocketKeeper x = Due.of("a,b,c");
        PocketKeeper tooBig = Due.of("a,b,abcde");
        for (int what : new int[] {-1, 3, Integer.MIN_VALUE, Integer.MAX_VALUE}) {
            Due.due("pair(" + what + ")", x.pair(what), OUTSIDE);
            Due.due("pair(" + what + ") with no JOBS", none.pair(what), OUTSIDE);
            Due.due("pair(" + what + "), TOO BIG", tooBig.pair(what), OUTSIDE);
        }
        Sentences.test(18, "STATE: as for cost().");
        for (int what = 0; what < 3; what++) {
            Due.due("pair(" + what + ") with no JOBS", none.pair(what), STATE);
            Due.due("pair(" + what + "), TOO BIG", tooBig.pair(what), STATE);
        }
    }

    private static void better() {
        Sentences.test(19, "JOBS of BETTER are changed about: LEAST then;");
        PocketKeeper x = Due.with(2, "abcd", "d,c,c,b,b,d,d,a");
        Due.due("better()", x.better(), 8);
        int[] order = {7, 1, 2, 3, 4, 5, 6, 0};
        for (int place = 0; place < 8; place++) {
            Due.due("job(" + place + ", 1)", x.job(place, 1), order[place]);
        }
        Due.due("cost(1)", x.cost(1), 8);
        Due.due("soonest(0, 0)", x.soonest(0, 0), 1);
        Due.due("count(5)", x.count(5), 1);
        PocketKeeper y = Due.with(2, "b", "b,a,b,a,b,a,b,a");
        Due.due("cost(1) at first", y.cost(1), 12);
        int least = 12;
        int times = 0;
        for (int then = y.better(); then != NONE && times < 30; then = y.better()) {
            times++;
            Due.holds("better() again: less", then < least);
            Due.due("better() again: cost(1)", y.cost(1), then);
            Due.due("better() again: count(5)", y.count(5), times);
            least = then;
        }
        Due.due("better() again and again", least, 3);
    }

    private static void betterNone() {
        Sentences.test(19, "NONE: there is none (nothing is otherwise then).");
        for (String jobs : new String[] {"a", "a,b", "a,a,a,a,a,a,a,a", "a,b,c"}) {
            PocketKeeper x = Due.of(jobs);
            Due.changesNothing("better() of " + jobs, x, () -> Due.due("better() of " + jobs, x.better(), NONE));
            Due.due("count(5) of " + jobs, x.count(5), 0);
        }
        PocketKeeper y = Due.with(2, "b", "b,b,a,a");
        y.swap(0, 1);
        Due.write(y, "a,b");
        Due.changesNothing("better()", y, () -> Due.due("better()", y.better(), NONE));
        Due.due("count(5)", y.count(5), 1);
        Due.due("count(1)", y.count(1), 3);
    }

    private static void betterState() {
        Sentences.test(19, "STATE: as for cost().");
        PocketKeeper none = new PocketKeeper();
        Due.changesNothing("with no JOBS", none, () -> Due.due("with no JOBS", none.better(), STATE));
        PocketKeeper tooBig = Due.with(2, "b", "a,b,a");
        tooBig.pair(0);
        Due.write(tooBig, "a,bc,a");
        tooBig.jobs();
        Due.changesNothing("TOO BIG", tooBig, () -> Due.due("TOO BIG", tooBig.better(), STATE));
        tooBig.pockets(3);
        Due.due("no more TOO BIG", tooBig.better(), 4);
    }

    // ---- 20 and 21

    private static void counts() {
        PocketKeeper x = Due.with(2, "abcdefgh", "a,b,a,b,a,b,a,b");
        for (int i = 0; i < 64; i++) {
            x.breaks(i >> 3, i & 7, true);
        }
        x.swap(0, 0);
        Due.write(x, "~".repeat(71));
        PocketKeeper none = new PocketKeeper();
        countIs(0, "How many: 0 JOBS,", none, 0, x, 8);
        countIs(1, "1 letters of THE PAGE,", none, 0, x, 71);
        countIs(2, "2 POCKETS,", none, 4, x, 2);
        countIs(3, "3 TOOLS that are BIG, as bits,", none, 0, x, 255);
        countIs(4, "4 BREAKS,", none, 0, x, 64);
        countIs(5, "5 changes of ORDER since JOBS were read,", none, 0, x, 1);
        countIs(6, "6 how often JOBS were read,", none, 0, x, 1);
        countIs(7, "7 whether JOBS are TOO BIG (1, 0).", none, 0, x, 0);
        Due.due("of a JOB that is TOO BIG", Due.with(2, "b", "a,bc").count(7), 1);
        Sentences.test(20, "6 how often JOBS were read,");
        Due.due("jobs() of what is none", x.jobs(), STATE);
        Due.due("count(6) behind it", x.count(6), 1);
        x.blank();
        Due.write(x, "a");
        x.jobs();
        Due.countsAre("read again", x, 1, 0, 2, 255, 0, 0, 2, 0);
    }

    private static void countIs(int what, String words, PocketKeeper few, int least, PocketKeeper many, int most) {
        Sentences.test(20, words);
        Due.due("count(" + what + "), the least", few.count(what), least);
        Due.due("count(" + what + "), the most", many.count(what), most);
    }

    private static void countOutside() {
        Sentences.test(20, "OUTSIDE.");
        PocketKeeper none = new PocketKeeper();
        PocketKeeper x = Due.of("a,b");
        for (int what : new int[] {-1, 8, Integer.MIN_VALUE, Integer.MAX_VALUE}) {
            Due.due("count(" + what + ") with no JOBS", none.count(what), OUTSIDE);
            Due.due("count(" + what + ")", x.count(what), OUTSIDE);
        }
    }

    /** In numbers without bounds, cut to 64 bits at the end alone. */
    private static long fold(List<Long> numbers) {
        BigInteger h = BigInteger.valueOf(1699);
        for (long number : numbers) {
            h = h.multiply(BigInteger.valueOf(31)).add(BigInteger.valueOf(number));
        }
        return h.longValue();
    }

    private static void addRow(List<Long> numbers, PocketKeeper x) {
        for (int place = 0; place < x.count(0); place++) {
            for (int what = 0; what <= 2; what++) {
                numbers.add((long) x.job(place, what));
            }
            for (int tool = 0; tool < 8; tool++) {
                numbers.add((long) x.next(place, tool));
            }
        }
    }

    private static void addKeeping(List<Long> numbers, PocketKeeper x) {
        for (int place = 0; place < x.count(0); place++) {
            for (int what = 0; what <= 3; what++) {
                numbers.add((long) x.soonest(place, what));
            }
            for (int what = 0; what <= 3; what++) {
                numbers.add((long) x.plan(place, what));
            }
        }
        for (int what = 0; what <= 4; what++) {
            numbers.add((long) x.cost(what));
        }
        numbers.add(x.mean());
        numbers.add((long) x.ratio());
        for (int what = 0; what <= 2; what++) {
            numbers.add((long) x.pair(what));
        }
    }

    private static void addPageAndCounts(List<Long> numbers, PocketKeeper x, String page) {
        for (int i = 0; i < page.length(); i++) {
            numbers.add((long) page.charAt(i));
        }
        for (int what = 0; what <= 7; what++) {
            numbers.add((long) x.count(what));
        }
    }

    private static void digestFolds() {
        Sentences.test(21, "h is 1699, then for each of these numbers, in order, 31 times h, and it (as longs, wrapping):");
        // eight numbers alone: 1699, and 4 behind two noughts, in front of five
        long powers = 31L * 31 * 31 * 31;
        Due.due("new", new PocketKeeper().digest(), 1699 * powers * powers + 4 * powers * 31);
        PocketKeeper x = new PocketKeeper();
        Due.write(x, "~".repeat(71));
        List<Long> numbers = new ArrayList<>();
        addPageAndCounts(numbers, x, "~".repeat(71));
        Due.due("wrapping", x.digest(), fold(numbers));
    }

    private static void digestOfRow() {
        Sentences.test(21, "of each PLACE job() for 0 to 2, next() of each TOOL;");
        PocketKeeper x = Due.of("ah,abcdefgh,b");
        x.breaks(1, 0, true);
        x.swap(0, 2);
        List<Long> numbers = new ArrayList<>();
        addRow(numbers, x);
        addPageAndCounts(numbers, x, "");
        Due.due("nothing but these and count()", x.digest(), fold(numbers));
        Sentences.test(21, "if there are JOBS that are not TOO BIG:");
        Due.due("TOO BIG", x.digest(), fold(numbers));
        x.pockets(8);
        digestIs("no more TOO BIG", x, "");
        digestIs("just not TOO BIG", Due.with(4, "", "abcd,a"), "");
    }

    private static void digestIs(String name, PocketKeeper x, String page) {
        // asked first, while the object has worked out nothing yet
        long h = x.digest();
        List<Long> numbers = new ArrayList<>();
        addRow(numbers, x);
        addKeeping(numbers, x);
        addPageAndCounts(numbers, x, page);
        Due.due(name, h, fold(numbers));
        Due.due(name + ", asked again", x.digest(), h);
    }

    private static void digestOfKeeping() {
        Sentences.test(21, "of each PLACE soonest() for 0 to 3, plan() for 0 to 3;");
        digestIs("SOONEST is not THE PLAN", Due.with(2, "", "ab,c,b,a"), "");
        Sentences.test(21, "cost() for 0 to 4,");
        digestIs("SOONEST costs more than LEAST", Due.with(3, "ac", "h,a,c,a,h"), "");
        Sentences.test(21, "mean(), ratio(),");
        digestIs("one JOB", Due.of("a"), "");
        Sentences.test(21, "pair() for 0 to 2;");
        digestIs("there is a pair", Due.with(2, "abcd", "d,c,c,b,b,d,d,a"), "");
        digestIs("there is none", Due.of("a,b"), "");
    }

    private static void digestOfPageAndCounts() {
        Sentences.test(21, "each letter of THE PAGE by its code;");
        PocketKeeper x = Due.of("a,b");
        Due.write(x, " ~,a");
        digestIs("letters that are no JOBS", x, " ~,a");
        PocketKeeper full = Due.of("a,b");
        Due.write(full, "z".repeat(71));
        digestIs("a full page", full, "z".repeat(71));
        Sentences.test(21, "what count() tells for 0 to 7.");
        PocketKeeper y = Due.with(3, "h", "ab,c,ab");
        y.breaks(2, 7, true);
        y.swap(1, 1);
        digestIs("of all that is told", y, "");
        long h = y.digest();
        y.swap(1, 1);
        Due.holds("a change of ORDER is told", y.digest() != h);
    }
}
