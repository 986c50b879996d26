import java.lang.reflect.Method;

/** Promises 13 to 19: soonest, plan, cost, mean, ratio, pair, better. */
public final class KeepingTest {
    private static final int[] WRONG = {-1, Integer.MIN_VALUE, Integer.MAX_VALUE};

    public static void main(String[] args) throws ReflectiveOperationException {
        soonestGoesLatestFirst();
        soonestOfLikeOnes();
        soonestWithBreaks();
        planIsLeast();
        planWithBreaks();
        askedAgain();
        costs();
        meansAndRatios();
        bitsOfQuotients();
        pairs();
        betters();
        refusals();
        tooBig();
        Due.end();
    }

    private static void soonestGoesLatestFirst() {
        PocketKeeper x = Due.with(2, "", "ab,c,b,a");
        Due.soonestIs("13: latest", x, 0, "ab", "ab", "", 2);
        Due.soonestIs("13: latest", x, 1, "bc", "c", "a", 1);
        Due.soonestIs("13: latest", x, 2, "bc", "", "", 0);
        Due.soonestIs("13: latest", x, 3, "ab", "a", "c", 1);
        x = Due.with(4, "a", "abc,d,a,b");
        Due.soonestIs("13: never is latest, BIG or not", x, 1, "abd", "d", "c", 1);
        x = Due.with(4, "", "abc,d");
        Due.soonestIs("13: all may stay", x, 1, "abcd", "d", "", 1);
        x = Due.with(4, "d", "abc,d,a");
        Due.soonestIs("13: one goes for a big one", x, 1, "abd", "d", "c", 2);
        x = Due.with(3, "d", "abc,d,a");
        Due.soonestIs("13: two go", x, 1, "ad", "d", "bc", 2);
        x = Due.with(12, "abcd", "abcdefgh,a");
        Due.soonestIs("13: full to the last pocket", x, 0, "abcdefgh", "abcdefgh", "", 12);
        Due.soonestIs("13: full to the last pocket", x, 1, "abcdefgh", "", "", 0);
    }

    private static void soonestOfLikeOnes() {
        PocketKeeper x = Due.with(3, "", "abc,d");
        Due.soonestIs("13: greatest number", x, 1, "abd", "d", "c", 1);
        x = Due.with(4, "a", "abc,d");
        Due.soonestIs("13: BIG ahead of SLIM", x, 1, "bcd", "d", "a", 1);
        x = Due.with(5, "ab", "abc,d");
        Due.soonestIs("13: of BIG ones the greatest number", x, 1, "acd", "d", "b", 1);
        x = Due.with(4, "b", "abc,d,abc");
        Due.soonestIs("13: like NEXT, BIG first", x, 1, "acd", "d", "b", 1);
        x = Due.with(3, "", "abc,d,abc");
        Due.soonestIs("13: like NEXT, greatest number", x, 1, "abd", "d", "c", 1);
    }

    private static void soonestWithBreaks() {
        PocketKeeper x = Due.with(2, "", "ab,c,b,a");
        x.breaks(1, 1, true);
        Due.soonestIs("13: a tool about to break", x, 1, "ac", "c", "b", 1);
        Due.soonestIs("13: a tool about to break", x, 2, "ab", "b", "c", 1);
        Due.soonestIs("13: a tool about to break", x, 3, "ab", "", "", 0);
        x = Due.with(2, "", "a,b,a");
        x.breaks(0, 0, true);
        Due.soonestIs("13: what broke does not go", x, 1, "b", "b", "", 1);
        Due.soonestIs("13: what broke comes", x, 2, "ab", "a", "", 1);
        x.breaks(0, 0, false);
        x.breaks(0, 1, true);
        Due.soonestIs("13: a break of what is not there", x, 1, "ab", "b", "", 1);
        Due.soonestIs("13: a break of what is not there", x, 2, "ab", "", "", 0);
    }

    private static void planIsLeast() {
        PocketKeeper x = Due.with(2, "", "ab,c,b,a");
        Due.planIs("14: least bits", x, 0, "ab", "ab", "", 2);
        Due.planIs("14: least bits", x, 1, "ac", "c", "b", 1);
        Due.planIs("14: least bits", x, 2, "ab", "b", "c", 1);
        Due.planIs("14: least bits", x, 3, "a", "", "b", 0);
        x = Due.with(12, "", "abcdefgh,h");
        Due.planIs("14: nothing stays for nothing", x, 1, "h", "", "abcdefg", 0);
        x = Due.with(4, "ab", "a,bc,d,a,bc");
        Due.planIs("14: LEAST below SOONEST", x, 1, "bc", "bc", "a", 3);
        Due.planIs("14: LEAST below SOONEST", x, 2, "bd", "d", "c", 1);
        Due.planIs("14: LEAST below SOONEST", x, 3, "ab", "a", "d", 2);
        Due.planIs("14: LEAST below SOONEST", x, 4, "bc", "c", "a", 1);
        x = Due.with(9, "abcdh", "egh,efh,abce,cdfgh");
        Due.planIs("14: the first place counts first", x, 1, "efh", "f", "g", 1);
        Due.planIs("14: the first place counts first", x, 2, "abceh", "abc", "f", 6);
        Due.planIs("14: the first place counts first", x, 3, "cdfgh", "dfg", "abe", 4);
    }

    private static void askedAgain() {
        PocketKeeper x = Due.with(4, "", "abc,d,a");
        Due.soonestIs("13: ahead of big()", x, 1, "abcd", "d", "", 1);
        x.big(0, true);
        Due.soonestIs("13: behind big()", x, 1, "abd", "d", "c", 1);
        Due.planIs("14: behind big()", x, 1, "ad", "d", "bc", 1);
        x.pockets(5);
        Due.soonestIs("13: behind pockets()", x, 1, "abcd", "d", "", 1);
        x.breaks(0, 0, true);
        Due.soonestIs("13: behind breaks()", x, 1, "bcd", "d", "", 1);
        x.swap(1, 2);
        Due.soonestIs("13: behind swap()", x, 1, "abc", "a", "", 2);
        Due.due("18: pair(0) behind swap()", x.pair(0), 0);
        Due.due("18: pair(1) behind swap()", x.pair(1), 2);
        Due.due("19: better()", x.better(), 5);
        Due.soonestIs("13: behind better()", x, 0, "d", "d", "", 1);
        Due.planIs("14: behind better()", x, 2, "abc", "bc", "", 2);
        Due.write(x, "e,f");
        x.jobs();
        Due.soonestIs("13: behind jobs()", x, 1, "ef", "f", "", 1);
        Due.planIs("14: behind jobs()", x, 1, "f", "f", "e", 1);
        Due.due("18: pair(0) behind jobs()", x.pair(0), PocketKeeper.NONE);
    }

    private static void planWithBreaks() {
        PocketKeeper x = Due.with(3, "", "ab,c,ab");
        Due.planIs("14: no break", x, 1, "abc", "c", "", 1);
        x.breaks(1, 0, true);
        Due.planIs("14: a break ahead", x, 1, "bc", "c", "a", 1);
        Due.planIs("14: a break ahead", x, 2, "ab", "a", "c", 1);
        x.breaks(0, 1, true);
        Due.planIs("14: broken ones do not go", x, 1, "c", "c", "a", 1);
        Due.planIs("14: broken ones come", x, 2, "ab", "ab", "c", 2);
    }

    private static void costs() {
        Due.costsAre("15: BIG ones", Due.with(4, "ab", "a,bc,d,a,bc"), 10, 9, 6, 6, 6);
        Due.costsAre("15: SLIM ones", Due.with(2, "", "ab,c,b,a"), 4, 4, 3, 4, 4);
        Due.costsAre("15: SOONEST comes oftener", Due.with(3, "ac", "h,a,c,a,h"), 8, 7, 5, 5, 4);
        Due.costsAre("15: THE PLAN comes oftener", Due.with(9, "abcdh", "egh,efh,abce,cdfgh"), 15, 15, 13, 9, 10);
        Due.costsAre("15: one job", Due.with(2, "h", "h"), 2, 2, 2, 1, 1);
        Due.costsAre("15: the same job", Due.with(3, "", "abc,abc,abc,abc,abc,abc,abc,abc"), 3, 3, 3, 3, 3);
        Due.costsAre("15: no room", Due.with(2, "abcd", "a,b,c,d,a,b,c,d"), 16, 16, 8, 8, 8);
        PocketKeeper x = Due.with(2, "", "a,a,a");
        x.breaks(0, 0, true);
        x.breaks(1, 0, true);
        x.breaks(2, 0, true);
        Due.costsAre("15: a break each time", x, 3, 3, 1, 3, 3);
    }

    private static void quotientsAre(String name, PocketKeeper x, int soonest, int many, int least) {
        Due.due("16: " + name + " mean()", x.mean(), Double.doubleToLongBits((double) soonest / many));
        Due.due("17: " + name + " ratio()", x.ratio(), Float.floatToIntBits((float) soonest / least));
    }

    private static void meansAndRatios() {
        quotientsAre("BIG ones", Due.with(4, "ab", "a,bc,d,a,bc"), 10, 5, 9);
        quotientsAre("an eighth", Due.with(4, "", "a,a,a,a,a,a,a,a"), 1, 8, 1);
        quotientsAre("a third", Due.with(4, "", "a,a,a"), 1, 3, 1);
        quotientsAre("one", Due.with(4, "", "ab,ab"), 2, 2, 2);
        quotientsAre("twelve", Due.with(12, "abcd", "abcdefgh"), 12, 1, 12);
        quotientsAre("two thirds", Due.with(4, "", "ab,ab,a"), 2, 3, 2);
        quotientsAre("five sixths", Due.with(5, "", "abcde,a,a,a,a,a"), 5, 6, 5);
        // the greatest ratio that was found by searching
        quotientsAre("three halves", Due.with(5, "bcdf", "dh,ef,dh,ef,dh,ef,dh,ef"), 18, 8, 12);
    }

    /** No run of calls is known whose ratio is 2 or more, so the bits of such ones are asked for by themselves. */
    private static void bitsOfQuotients() throws ReflectiveOperationException {
        Method ofDouble = PocketKeeper.class.getDeclaredMethod("bitsOfDouble", double.class);
        Method ofFloat = PocketKeeper.class.getDeclaredMethod("bitsOfFloat", float.class);
        ofDouble.setAccessible(true);
        ofFloat.setAccessible(true);
        for (int cost = 1; cost <= 96; cost++) {
            for (int by = 1; by <= 96; by++) {
                double mean = (double) cost / by;
                if (by <= 8) {
                    Due.due("16: bits of " + mean, (long) ofDouble.invoke(null, mean), Double.doubleToLongBits(mean));
                }
                float ratio = (float) cost / by;
                if (by <= cost) {
                    Due.due("17: bits of " + ratio, (int) ofFloat.invoke(null, ratio), Float.floatToIntBits(ratio));
                }
            }
        }
    }

    private static void pairIs(String name, PocketKeeper x, int first, int second, int least) {
        long h = x.digest();
        Due.pairIs("18: " + name, x, first, second, least);
        Due.due("18: " + name + " changes nothing", x.digest(), h);
    }

    private static void pairs() {
        pairIs("of like ones the first", Due.with(2, "b", "a,b,a"), 0, 1, 3);
        pairIs("of like ones the lesser first place", Due.with(2, "b", "b,a,b,b"), 0, 1, 3);
        pairIs("the best, not the first", Due.with(2, "b", "b,a,a,b"), 0, 2, 3);
        pairIs("none", Due.with(2, "b", "b,b,a,a"), -1, -1, -1);
        pairIs("one job", Due.with(2, "", "a"), -1, -1, -1);
        PocketKeeper x = Due.with(2, "b", "b,b,a,a");
        x.breaks(0, 1, true);
        // b breaks behind place 0, whichever job is there: b,b,a,a costs 5, a,b,b,a costs 4, a,b,a,b costs 6
        pairIs("breaks stay with places", x, 0, 2, 4);
    }

    private static void betters() {
        PocketKeeper x = Due.with(2, "b", "a,b,a");
        Due.due("19: better()", x.better(), 3);
        Due.due("19: job(0, 1)", x.job(0, 1), 1);
        Due.due("19: job(1, 1)", x.job(1, 1), 0);
        Due.due("19: job(2, 1)", x.job(2, 1), 2);
        Due.due("19: count(5)", x.count(5), 1);
        Due.due("19: cost(1)", x.cost(1), 3);
        Due.due("19: pair(0) then", x.pair(0), PocketKeeper.NONE);
        long h = x.digest();
        Due.due("19: better() again", x.better(), PocketKeeper.NONE);
        Due.due("19: nothing is otherwise", x.digest(), h);
        Due.due("19: count(5) then", x.count(5), 1);
        PocketKeeper y = Due.with(2, "b", "b,a,b,a,b,a");
        int least = y.cost(1);
        for (int i = 1; i <= 30; i++) {
            int then = y.better();
            if (then == PocketKeeper.NONE) {
                break;
            }
            Due.holds("19: better() makes it less", then < least);
            Due.due("19: cost(1) behind better()", y.cost(1), then);
            Due.due("19: count(5) behind better()", y.count(5), i);
            least = then;
        }
        Due.due("19: in the end", least, 3);
    }

    private static void refusals() {
        PocketKeeper none = new PocketKeeper();
        Due.due("13: no jobs", none.soonest(0, 0), PocketKeeper.UNKNOWN);
        Due.due("14: no jobs", none.plan(0, 0), PocketKeeper.UNKNOWN);
        Due.due("15: no jobs", none.cost(0), PocketKeeper.STATE);
        Due.due("16: no jobs", none.mean(), PocketKeeper.STATE);
        Due.due("17: no jobs", none.ratio(), PocketKeeper.STATE);
        Due.due("18: no jobs", none.pair(0), PocketKeeper.STATE);
        Due.due("19: no jobs", none.better(), PocketKeeper.STATE);
        PocketKeeper x = Due.with(4, "", "a,b");
        for (PocketKeeper of : new PocketKeeper[] {none, x}) {
            outside(of);
        }
        for (int place : new int[] {-1, 2, 8, Integer.MIN_VALUE, Integer.MAX_VALUE}) {
            Due.due("13: soonest(" + place + ", 9)", x.soonest(place, 9), PocketKeeper.UNKNOWN);
            Due.due("14: plan(" + place + ", 9)", x.plan(place, 9), PocketKeeper.UNKNOWN);
        }
        for (int what : WRONG) {
            Due.due("13: soonest(0, " + what + ")", x.soonest(0, what), PocketKeeper.OUTSIDE);
            Due.due("14: plan(0, " + what + ")", x.plan(0, what), PocketKeeper.OUTSIDE);
        }
        Due.due("13: soonest(0, 4)", x.soonest(0, 4), PocketKeeper.OUTSIDE);
        Due.due("14: plan(0, 4)", x.plan(0, 4), PocketKeeper.OUTSIDE);
    }

    private static void outside(PocketKeeper x) {
        for (int what : WRONG) {
            Due.due("15: cost(" + what + ")", x.cost(what), PocketKeeper.OUTSIDE);
            Due.due("18: pair(" + what + ")", x.pair(what), PocketKeeper.OUTSIDE);
        }
        Due.due("15: cost(5)", x.cost(5), PocketKeeper.OUTSIDE);
        Due.due("18: pair(3)", x.pair(3), PocketKeeper.OUTSIDE);
    }

    private static void tooBig() {
        PocketKeeper x = Due.with(2, "", "a,ab,b");
        Due.due("15: just big enough", x.cost(0), 2);
        x.big(1, true);
        long h = x.digest();
        Due.due("13: too big", x.soonest(0, 0), PocketKeeper.STATE);
        Due.due("13: too big, no place", x.soonest(3, 0), PocketKeeper.UNKNOWN);
        Due.due("13: too big, outside", x.soonest(0, 4), PocketKeeper.OUTSIDE);
        Due.due("14: too big", x.plan(0, 0), PocketKeeper.STATE);
        Due.due("14: too big, no place", x.plan(-1, 0), PocketKeeper.UNKNOWN);
        Due.due("14: too big, outside", x.plan(0, -1), PocketKeeper.OUTSIDE);
        Due.due("15: too big", x.cost(2), PocketKeeper.STATE);
        Due.due("15: too big, outside", x.cost(5), PocketKeeper.OUTSIDE);
        Due.due("16: too big", x.mean(), PocketKeeper.STATE);
        Due.due("17: too big", x.ratio(), PocketKeeper.STATE);
        Due.due("18: too big", x.pair(0), PocketKeeper.STATE);
        Due.due("18: too big, outside", x.pair(3), PocketKeeper.OUTSIDE);
        Due.due("19: too big", x.better(), PocketKeeper.STATE);
        Due.due("13: refusals change nothing", x.digest(), h);
        x.pockets(3);
        Due.due("15: big enough again", x.cost(0), 3);
    }
}
