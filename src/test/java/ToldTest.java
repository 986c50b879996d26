/** Promises 6 to 9: big, pockets, breaks, swap. */
public final class ToldTest {
    private static final int[] NO_TOOLS = {-1, 8, 32, 33, Integer.MIN_VALUE, Integer.MAX_VALUE};

    public static void main(String[] args) {
        bigTools();
        pockets();
        breaks();
        breaksStayWithPlaces();
        swaps();
        Due.end();
    }

    private static void bigTools() {
        PocketKeeper x = new PocketKeeper();
        for (int tool = 0; tool < 8; tool++) {
            Due.due("6: big(" + tool + ", true)", x.big(tool, true), 0);
            Due.due("6: big(" + tool + ", true) again", x.big(tool, true), 1);
            Due.due("6: count(3)", x.count(3), (2 << tool) - 1);
        }
        Due.due("6: big(3, false)", x.big(3, false), 1);
        Due.due("6: big(3, false) again", x.big(3, false), 0);
        Due.due("6: count(3) less d", x.count(3), 255 - 8);
        long h = x.digest();
        for (int tool : NO_TOOLS) {
            Due.due("6: big(" + tool + ", true)", x.big(tool, true), PocketKeeper.UNKNOWN);
            Due.due("6: big(" + tool + ", false)", x.big(tool, false), PocketKeeper.UNKNOWN);
        }
        Due.due("6: digest() behind refusals", x.digest(), h);
        PocketKeeper y = Due.of("ab,c");
        Due.due("6: cost(1) of slim ones", y.cost(1), 3);
        y.big(1, true);
        Due.due("6: cost(1) with a big one", y.cost(1), 4);
        y.big(1, false);
        Due.due("6: cost(1) of slim ones again", y.cost(1), 3);
    }

    private static void pockets() {
        PocketKeeper x = new PocketKeeper();
        Due.due("7: pockets(2)", x.pockets(2), 4);
        Due.due("7: pockets(12)", x.pockets(12), 2);
        for (int v : new int[] {1, 0, -1, 13, Integer.MIN_VALUE, Integer.MAX_VALUE}) {
            Due.due("7: pockets(" + v + ")", x.pockets(v), PocketKeeper.OUTSIDE);
        }
        Due.due("7: count(2)", x.count(2), 12);
        Due.due("7: pockets(12) again", x.pockets(12), 12);
        PocketKeeper y = Due.of("ab,cd,ab");
        Due.due("7: cost(1) with four", y.cost(1), 4);
        y.pockets(2);
        Due.due("7: cost(1) with two", y.cost(1), 6);
        y.pockets(3);
        Due.due("7: cost(1) with three", y.cost(1), 5);
    }

    private static void breaks() {
        PocketKeeper x = new PocketKeeper();
        Due.due("8: breaks(0, 0, true) with no jobs", x.breaks(0, 0, true), PocketKeeper.UNKNOWN);
        x = Due.of("a,b,a");
        Due.due("8: breaks(0, 0, false)", x.breaks(0, 0, false), 0);
        Due.due("8: breaks(0, 0, true)", x.breaks(0, 0, true), 0);
        Due.due("8: breaks(0, 0, true) again", x.breaks(0, 0, true), 1);
        Due.due("8: breaks(2, 7, true)", x.breaks(2, 7, true), 0);
        Due.due("8: breaks(2, 3, true)", x.breaks(2, 3, true), 0);
        Due.due("8: job(0, 2)", x.job(0, 2), 1);
        Due.due("8: job(1, 2)", x.job(1, 2), 0);
        Due.due("8: job(2, 2)", x.job(2, 2), 128 + 8);
        Due.due("8: count(4)", x.count(4), 3);
        Due.due("8: cost(1) with a break", x.cost(1), 3);
        long h = x.digest();
        for (int tool : NO_TOOLS) {
            Due.due("8: breaks(0, " + tool + ", true)", x.breaks(0, tool, true), PocketKeeper.UNKNOWN);
        }
        for (int place : new int[] {-1, 3, 8, Integer.MIN_VALUE, Integer.MAX_VALUE}) {
            Due.due("8: breaks(" + place + ", 0, true)", x.breaks(place, 0, true), PocketKeeper.UNKNOWN);
        }
        Due.due("8: digest() behind refusals", x.digest(), h);
        Due.due("8: breaks(0, 0, false) takes it", x.breaks(0, 0, false), 1);
        Due.due("8: breaks(0, 0, false) again", x.breaks(0, 0, false), 0);
        Due.due("8: cost(1) without a break", x.cost(1), 2);
        Due.due("8: count(4) then", x.count(4), 2);
    }

    private static void breaksStayWithPlaces() {
        PocketKeeper x = Due.of("a,b,c");
        x.breaks(0, 1, true);
        x.swap(0, 2);
        Due.due("8: job(0, 2) behind a swap", x.job(0, 2), 2);
        Due.due("8: job(2, 2) behind a swap", x.job(2, 2), 0);
    }

    private static void swaps() {
        PocketKeeper x = new PocketKeeper();
        Due.due("9: swap(0, 0) with no jobs", x.swap(0, 0), PocketKeeper.UNKNOWN);
        x = Due.of("a,b,c");
        Due.due("9: swap(0, 2)", x.swap(0, 2), 1);
        Due.due("9: job(0, 0)", x.job(0, 0), 4);
        Due.due("9: job(1, 0)", x.job(1, 0), 2);
        Due.due("9: job(2, 0)", x.job(2, 0), 1);
        Due.due("9: swap(1, 1)", x.swap(1, 1), 2);
        Due.due("9: swap(1, 0)", x.swap(1, 0), 3);
        Due.due("9: job(0, 1)", x.job(0, 1), 1);
        Due.due("9: job(1, 1)", x.job(1, 1), 2);
        Due.due("9: job(2, 1)", x.job(2, 1), 0);
        long h = x.digest();
        int[][] unknown = {{0, 3}, {3, 0}, {-1, 0}, {0, -1}, {8, 8}, {Integer.MAX_VALUE, Integer.MIN_VALUE}};
        for (int[] places : unknown) {
            Due.due("9: swap(" + places[0] + ", " + places[1] + ")", x.swap(places[0], places[1]), PocketKeeper.UNKNOWN);
        }
        Due.due("9: digest() behind refusals", x.digest(), h);
        Due.due("9: count(5)", x.count(5), 3);
        PocketKeeper y = Due.of("a,b,a");
        y.pockets(2);
        y.big(1, true);
        Due.due("9: cost(1) ahead", y.cost(1), 4);
        Due.due("9: swap(2, 1)", y.swap(2, 1), 1);
        Due.due("9: cost(1) behind", y.cost(1), 3);
        y.swap(1, 2);
        Due.due("9: better()", y.better(), 3);
        Due.due("9: swap behind better()", y.swap(0, 0), 4);
        Due.write(y, "a,b");
        y.jobs();
        Due.due("9: swap(0, 1) of new jobs", y.swap(0, 1), 1);
    }
}
