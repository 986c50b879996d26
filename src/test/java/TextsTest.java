/** Promises 1 to 5: a new object, letter, blank, fault, jobs. */
public final class TextsTest {
    public static void main(String[] args) {
        newObject();
        letters();
        blanks();
        faults();
        reading();
        readingAgain();
        refusedReading();
        Due.end();
    }

    private static void newObject() {
        PocketKeeper x = new PocketKeeper();
        int[] counts = {0, 0, 4, 0, 0, 0, 0, 0};
        for (int what = 0; what < counts.length; what++) {
            Due.due("1: new count(" + what + ")", x.count(what), counts[what]);
        }
        Due.due("1: new job(0, 0)", x.job(0, 0), PocketKeeper.UNKNOWN);
        Due.due("1: new fault()", x.fault(), 0);
        Due.due("1: new jobs()", x.jobs(), PocketKeeper.STATE);
        Due.due("1: new cost(0)", x.cost(0), PocketKeeper.STATE);
        long h = 1699;
        for (int number : counts) {
            h = 31 * h + number;
        }
        Due.due("1: new digest()", x.digest(), h);
    }

    private static void letters() {
        PocketKeeper x = new PocketKeeper();
        int[] outside = {31, 127, 0, -1, 97 + 256, 65536 + 97, Integer.MIN_VALUE, Integer.MAX_VALUE};
        for (int code : outside) {
            Due.due("2: letter(" + code + ")", x.letter(code), PocketKeeper.OUTSIDE);
        }
        Due.due("2: count(1) behind refusals", x.count(1), 0);
        Due.due("2: letter(32)", x.letter(32), 1);
        Due.due("2: letter(126)", x.letter(126), 2);
        for (int i = 3; i <= 71; i++) {
            Due.due("2: letter " + i, x.letter('a'), i);
        }
        long h = x.digest();
        Due.due("2: letter 72", x.letter('a'), PocketKeeper.FULL);
        Due.due("2: letter(31) on a full page", x.letter(31), PocketKeeper.OUTSIDE);
        Due.due("2: digest() behind refusals", x.digest(), h);
        Due.due("2: count(1) of a full page", x.count(1), 71);
    }

    private static void blanks() {
        PocketKeeper x = new PocketKeeper();
        Due.due("3: blank() of an empty page", x.blank(), 0);
        Due.write(x, "a,b");
        Due.due("3: blank()", x.blank(), 3);
        Due.due("3: count(1)", x.count(1), 0);
        Due.due("3: fault()", x.fault(), 0);
        Due.due("3: jobs()", x.jobs(), PocketKeeper.STATE);
        Due.due("3: letter behind it", x.letter('c'), 1);
        Due.due("3: jobs() behind it", x.jobs(), 1);
        Due.due("3: the job", x.job(0, 0), 4);
    }

    private static void faultOf(String text, int want) {
        PocketKeeper x = new PocketKeeper();
        Due.write(x, text);
        Due.due("4: fault() of '" + text + "'", x.fault(), want);
        Due.due("4: fault() of '" + text + "' again", x.fault(), want);
        Due.due("4: letters of '" + text + "'", x.count(1), text.length());
    }

    private static void faults() {
        faultOf("", 0);
        faultOf("a", 1);
        faultOf("h", 1);
        faultOf("i", 0);
        faultOf("A", 0);
        faultOf("`", 0);
        faultOf(" a", 0);
        faultOf("a b", 1);
        faultOf("ab", 2);
        faultOf("ba", 1);
        faultOf("aa", 1);
        faultOf("hh", 1);
        faultOf("ha", 1);
        faultOf(",", 0);
        faultOf("a,", 2);
        faultOf("a,,", 2);
        faultOf("a,b,,c", 4);
        faultOf("b,a", 3);
        faultOf("a;b", 1);
        faultOf("abcdefgh", 8);
        faultOf("abcdefghi", 8);
        faultOf("a,a,a,a,a,a,a,a", 15);
        faultOf("a,a,a,a,a,a,a,", 14);
        faultOf("a,a,a,a,a,a,a,a,", 15);
        faultOf("a,a,a,a,a,a,a,a,a", 15);
        faultOf("a,a,a,a,a,a,a,ab", 16);
        faultOf("ba,x", 1);
        faultOf("abcdefgh,".repeat(7) + "abcdefgh", 71);
        faultOf("abcdefgh,".repeat(7) + "abcdefgg", 70);
    }

    private static void reading() {
        PocketKeeper x = Due.of("abcdefgh,".repeat(7) + "abcdefgh");
        for (int place = 0; place < 8; place++) {
            Due.due("5: job(" + place + ", 0)", x.job(place, 0), 255);
            Due.due("5: job(" + place + ", 1)", x.job(place, 1), place);
        }
        Due.due("5: job(8, 0)", x.job(8, 0), PocketKeeper.UNKNOWN);
        Due.due("5: count(1)", x.count(1), 0);
        Due.due("5: count(0)", x.count(0), 8);
        Due.due("5: count(6)", x.count(6), 1);
    }

    private static void readingAgain() {
        PocketKeeper x = Due.of("abc,d,e,f");
        x.big(3, true);
        x.pockets(6);
        x.breaks(0, 0, true);
        x.breaks(1, 5, true);
        x.swap(0, 1);
        x.swap(1, 3);
        Due.write(x, "g,ah");
        Due.due("5: jobs() again", x.jobs(), 2);
        Due.due("5: job(0, 0) again", x.job(0, 0), Due.bits("g"));
        Due.due("5: job(1, 0) again", x.job(1, 0), Due.bits("ah"));
        Due.due("5: job(0, 1) again", x.job(0, 1), 0);
        Due.due("5: job(1, 1) again", x.job(1, 1), 1);
        Due.due("5: job(0, 2) again", x.job(0, 2), 0);
        Due.due("5: job(1, 2) again", x.job(1, 2), 0);
        Due.due("5: job(2, 0) is gone", x.job(2, 0), PocketKeeper.UNKNOWN);
        int[] counts = {2, 0, 6, 8, 0, 0, 2, 0};
        for (int what = 0; what < counts.length; what++) {
            Due.due("5: count(" + what + ") again", x.count(what), counts[what]);
        }
        Due.write(x, "a,b,c,d");
        Due.due("5: jobs() a third time", x.jobs(), 4);
        Due.due("5: BREAKS stay gone", x.count(4), 0);
        Due.due("5: needs are not joined with old ones", x.job(0, 0), 1);
    }

    private static void refusedReading() {
        PocketKeeper x = Due.of("ab,c");
        x.breaks(0, 0, true);
        x.swap(0, 1);
        String[] none = {"", "a,", "a,b,", ",a", "ba", "aa", "i", "a b", "a,,b", "a,a,a,a,a,a,a,a,a", "a,a,a,a,a,a,a,a,"};
        for (String text : none) {
            x.blank();
            Due.write(x, text);
            long h = x.digest();
            Due.due("5: jobs() of '" + text + "'", x.jobs(), PocketKeeper.STATE);
            Due.due("5: digest() behind '" + text + "'", x.digest(), h);
            Due.due("5: the page still holds '" + text + "'", x.count(1), text.length());
            Due.due("5: the jobs stay", x.job(0, 0), Due.bits("c"));
            Due.due("5: the reads stay", x.count(6), 1);
        }
    }
}
