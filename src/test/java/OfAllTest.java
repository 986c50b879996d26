import java.util.ArrayList;
import java.util.List;

/** Promises 20 and 21: count, digest. */
public final class OfAllTest {
    public static void main(String[] args) {
        counts();
        tooBigCounts();
        digestOfNothing();
        digestIsOfTheAnswers();
        digestOfTooBig();
        digestByHand();
        Due.end();
    }

    private static void countsAre(String name, PocketKeeper x, int... want) {
        Due.countsAre("20: " + name, x, want);
        for (int what : new int[] {-1, 8, Integer.MIN_VALUE, Integer.MAX_VALUE}) {
            Due.due("20: " + name + " count(" + what + ")", x.count(what), PocketKeeper.OUTSIDE);
        }
    }

    private static void counts() {
        PocketKeeper x = new PocketKeeper();
        countsAre("new", x, 0, 0, 4, 0, 0, 0, 0, 0);
        x = Due.of("ab,cd,ab");
        x.pockets(3);
        x.big(7, true);
        x.big(5, true);
        x.breaks(0, 0, true);
        x.breaks(0, 7, true);
        x.breaks(2, 7, true);
        x.swap(1, 1);
        Due.due("20: better()", x.better(), 4);
        Due.write(x, "a?");
        countsAre("told", x, 3, 2, 3, 128 + 32, 3, 2, 1, 0);
        x.blank();
        Due.write(x, "a");
        x.jobs();
        countsAre("read again", x, 1, 0, 3, 128 + 32, 0, 0, 2, 0);
    }

    private static void tooBigCounts() {
        Due.due("20: count(7) of the first job", Due.of("abcde,a").count(7), 1);
        Due.due("20: count(7) of the last job", Due.of("a,abcde").count(7), 1);
        PocketKeeper x = Due.of("a,abcde,b");
        Due.due("20: count(7) of five in four", x.count(7), 1);
        x.pockets(5);
        Due.due("20: count(7) of five in five", x.count(7), 0);
        x.big(4, true);
        Due.due("20: count(7) of six in five", x.count(7), 1);
        x.pockets(6);
        Due.due("20: count(7) of six in six", x.count(7), 0);
        x.big(7, true);
        Due.due("20: count(7), a BIG tool that none NEEDS", x.count(7), 0);
    }

    private static long fold(List<Long> numbers) {
        long h = 1699;
        for (long number : numbers) {
            h = 31 * h + number;
        }
        return h;
    }

    private static void addRow(PocketKeeper x, List<Long> numbers) {
        for (int place = 0; place < x.count(0); place++) {
            for (int what = 0; what < 3; what++) {
                numbers.add((long) x.job(place, what));
            }
            for (int tool = 0; tool < 8; tool++) {
                numbers.add((long) x.next(place, tool));
            }
        }
    }

    private static void addKeepings(PocketKeeper x, List<Long> numbers) {
        for (int place = 0; place < x.count(0); place++) {
            for (int what = 0; what < 4; what++) {
                numbers.add((long) x.soonest(place, what));
            }
            for (int what = 0; what < 4; what++) {
                numbers.add((long) x.plan(place, what));
            }
        }
        for (int what = 0; what < 5; what++) {
            numbers.add((long) x.cost(what));
        }
        numbers.add(x.mean());
        numbers.add((long) x.ratio());
        for (int what = 0; what < 3; what++) {
            numbers.add((long) x.pair(what));
        }
    }

    private static void addRest(PocketKeeper x, String page, List<Long> numbers) {
        for (char c : page.toCharArray()) {
            numbers.add((long) c);
        }
        for (int what = 0; what < 8; what++) {
            numbers.add((long) x.count(what));
        }
    }

    private static void digestOfNothing() {
        PocketKeeper x = new PocketKeeper();
        Due.write(x, "z ~");
        List<Long> numbers = new ArrayList<>();
        addRest(x, "z ~", numbers);
        Due.due("21: digest() with no jobs", x.digest(), fold(numbers));
    }

    private static void digestIsOfTheAnswers() {
        PocketKeeper x = Due.of("ab,cd,ae,bc,df,ab");
        x.pockets(3);
        x.breaks(1, 0, true);
        Due.write(x, "q,");
        // asked first, while the object has worked out nothing yet
        long h = x.digest();
        List<Long> numbers = new ArrayList<>();
        addRow(x, numbers);
        addKeepings(x, numbers);
        addRest(x, "q,", numbers);
        Due.due("21: digest()", h, fold(numbers));
        Due.due("21: digest() again", x.digest(), h);
    }

    private static void digestOfTooBig() {
        PocketKeeper x = Due.of("ab,cdefgh");
        List<Long> numbers = new ArrayList<>();
        addRow(x, numbers);
        addRest(x, "", numbers);
        Due.due("21: digest() of jobs that are TOO BIG", x.digest(), fold(numbers));
    }

    private static void digestByHand() {
        PocketKeeper x = Due.of("b");
        long[] numbers = {2, 0, 0, -1, -1, -1, -1, -1, -1, -1, -1,
            2, 2, 0, 1, 2, 2, 0, 1, 1, 1, 1, 1, 1,
            Double.doubleToLongBits(1.0), Float.floatToIntBits(1.0f), -1, -1, -1,
            1, 0, 4, 0, 0, 0, 1, 0};
        long h = 1699;
        for (long number : numbers) {
            h = 31 * h + number;
        }
        Due.due("21: digest() of one job", x.digest(), h);
    }
}
