/** Promises 10 to 12: as, job, next. */
public final class ToolsAndJobsTest {
    private static final int[] NO_TOOLS = {-1, 8, 32, Integer.MIN_VALUE, Integer.MAX_VALUE};

    public static void main(String[] args) {
        kinds();
        jobNumbers();
        nexts();
        nextsWithBreaks();
        Due.end();
    }

    private static void kinds() {
        PocketKeeper x = new PocketKeeper();
        x.big(7, true);
        x.big(0, true);
        for (int tool = 0; tool < 8; tool++) {
            boolean big = tool == 0 || tool == 7;
            Due.due("10: as(" + tool + ", 0)", x.as(tool, 0), tool);
            Due.due("10: as(" + tool + ", 1)", x.as(tool, 1), big ? PocketKeeper.NONE : tool);
            Due.due("10: as(" + tool + ", 2)", x.as(tool, 2), big ? tool : PocketKeeper.NONE);
            for (int kind : new int[] {-1, 3, Integer.MIN_VALUE, Integer.MAX_VALUE}) {
                Due.due("10: as(" + tool + ", " + kind + ")", x.as(tool, kind), PocketKeeper.OUTSIDE);
            }
        }
        for (int tool : NO_TOOLS) {
            Due.due("10: as(" + tool + ", 0)", x.as(tool, 0), PocketKeeper.UNKNOWN);
            Due.due("10: as(" + tool + ", 3)", x.as(tool, 3), PocketKeeper.UNKNOWN);
        }
        x.big(7, false);
        Due.due("10: as(7, 1) then", x.as(7, 1), 7);
        Due.due("10: as(7, 2) then", x.as(7, 2), PocketKeeper.NONE);
    }

    private static void jobNumbers() {
        PocketKeeper x = new PocketKeeper();
        Due.due("11: job(0, 3) with no jobs", x.job(0, 3), PocketKeeper.UNKNOWN);
        x = Due.of("ah,c,bdf");
        x.swap(0, 2);
        x.breaks(0, 5, true);
        Due.due("11: job(0, 0)", x.job(0, 0), Due.bits("bdf"));
        Due.due("11: job(1, 0)", x.job(1, 0), Due.bits("c"));
        Due.due("11: job(2, 0)", x.job(2, 0), Due.bits("ah"));
        Due.due("11: job(0, 1)", x.job(0, 1), 2);
        Due.due("11: job(1, 1)", x.job(1, 1), 1);
        Due.due("11: job(2, 1)", x.job(2, 1), 0);
        Due.due("11: job(0, 2)", x.job(0, 2), 32);
        Due.due("11: job(2, 2)", x.job(2, 2), 0);
        for (int what : new int[] {-1, 3, Integer.MIN_VALUE, Integer.MAX_VALUE}) {
            Due.due("11: job(0, " + what + ")", x.job(0, what), PocketKeeper.OUTSIDE);
            Due.due("11: job(3, " + what + ")", x.job(3, what), PocketKeeper.UNKNOWN);
        }
        for (int place : new int[] {-1, 3, 8, Integer.MIN_VALUE, Integer.MAX_VALUE}) {
            Due.due("11: job(" + place + ", 0)", x.job(place, 0), PocketKeeper.UNKNOWN);
        }
    }

    private static void nexts() {
        PocketKeeper x = new PocketKeeper();
        Due.due("12: next(0, 0) with no jobs", x.next(0, 0), PocketKeeper.UNKNOWN);
        x = Due.of("ab,b,c,ab");
        int[][] want = {{3, 1, 2, -1, -1, -1, -1, -1}, {3, 3, 2, -1, -1, -1, -1, -1}, {3, 3, -1, -1, -1, -1, -1, -1}, {-1, -1, -1, -1, -1, -1, -1, -1}};
        for (int place = 0; place < 4; place++) {
            for (int tool = 0; tool < 8; tool++) {
                Due.due("12: next(" + place + ", " + tool + ")", x.next(place, tool), want[place][tool]);
            }
        }
        for (int tool : NO_TOOLS) {
            Due.due("12: next(0, " + tool + ")", x.next(0, tool), PocketKeeper.UNKNOWN);
        }
        for (int place : new int[] {-1, 4, 8, Integer.MIN_VALUE, Integer.MAX_VALUE}) {
            Due.due("12: next(" + place + ", 0)", x.next(place, 0), PocketKeeper.UNKNOWN);
        }
        x.swap(1, 3);
        Due.due("12: next(0, 0) behind a swap", x.next(0, 0), 1);
    }

    private static void nextsWithBreaks() {
        PocketKeeper x = Due.of("a,b,c,a,a");
        x.breaks(1, 0, true);
        Due.due("12: a break between", x.next(0, 0), PocketKeeper.NONE);
        Due.due("12: a break at this place", x.next(1, 0), PocketKeeper.NONE);
        Due.due("12: a break ahead of this place", x.next(2, 0), 3);
        x.breaks(1, 0, false);
        x.breaks(3, 0, true);
        Due.due("12: a break at the next place", x.next(0, 0), 3);
        Due.due("12: the next but one is no NEXT", x.next(3, 0), PocketKeeper.NONE);
        Due.due("12: another tool's break", x.next(0, 1), 1);
        x.breaks(0, 0, true);
        Due.due("12: a break at place 0", x.next(0, 0), PocketKeeper.NONE);
        Due.due("12: seen from place 1", x.next(1, 0), 3);
    }
}
