/** Counts the answers of a test that are not the ones that are due. */
final class Due {
    private static int asked = 0;
    private static int wrong = 0;
    private static String sentence = "";

    private Due() {
    }

    /** What follows is due by this sentence of the document. */
    static void by(String words) {
        sentence = "[" + words + "] ";
    }

    static void due(String call, long got, long want) {
        asked++;
        if (got != want) {
            wrong++;
            System.out.println(sentence + call + " answered " + got + ", due is " + want);
        }
    }

    static void holds(String what, boolean is) {
        due(what, is ? 1 : 0, 1);
    }

    static void write(PocketKeeper keeper, String text) {
        for (int i = 0; i < text.length(); i++) {
            keeper.letter(text.charAt(i));
        }
    }

    /** A new object whose jobs are a text. */
    static PocketKeeper of(String text) {
        PocketKeeper keeper = new PocketKeeper();
        write(keeper, text);
        int many = text.split(",").length;
        due("jobs() of " + text, keeper.jobs(), many);
        return keeper;
    }

    /** A new object with pockets, with big tools by their letters, and with jobs. */
    static PocketKeeper with(int pockets, String big, String jobs) {
        PocketKeeper keeper = of(jobs);
        keeper.pockets(pockets);
        for (int i = 0; i < big.length(); i++) {
            keeper.big(big.charAt(i) - 'a', true);
        }
        return keeper;
    }

    /** Tools by their letters, as bits. */
    static int bits(String tools) {
        int bits = 0;
        for (int i = 0; i < tools.length(); i++) {
            bits |= 1 << (tools.charAt(i) - 'a');
        }
        return bits;
    }

    static void soonestIs(String name, PocketKeeper x, int place, String inside, String comes, String goes, int cost) {
        String call = name + " soonest(" + place + ", ";
        due(call + "0)", x.soonest(place, 0), bits(inside));
        due(call + "1)", x.soonest(place, 1), bits(comes));
        due(call + "2)", x.soonest(place, 2), bits(goes));
        due(call + "3)", x.soonest(place, 3), cost);
    }

    static void planIs(String name, PocketKeeper x, int place, String inside, String comes, String goes, int cost) {
        String call = name + " plan(" + place + ", ";
        due(call + "0)", x.plan(place, 0), bits(inside));
        due(call + "1)", x.plan(place, 1), bits(comes));
        due(call + "2)", x.plan(place, 2), bits(goes));
        due(call + "3)", x.plan(place, 3), cost);
    }

    /** What pair() answers for 0 to 2. */
    static void pairIs(String name, PocketKeeper x, int first, int second, int least) {
        due(name + " pair(0)", x.pair(0), first);
        due(name + " pair(1)", x.pair(1), second);
        due(name + " pair(2)", x.pair(2), least);
    }

    /** What cost() answers for 0 on. */
    static void costsAre(String name, PocketKeeper x, int... want) {
        for (int what = 0; what < want.length; what++) {
            due(name + " cost(" + what + ")", x.cost(what), want[what]);
        }
    }

    /** What count() answers for 0 on. */
    static void countsAre(String name, PocketKeeper x, int... want) {
        for (int what = 0; what < want.length; what++) {
            due(name + " count(" + what + ")", x.count(what), want[what]);
        }
    }

    /** The digest is of all that an object has been told, so it shows whether calls changed anything. */
    static void changesNothing(String what, PocketKeeper x, Runnable calls) {
        long h = x.digest();
        calls.run();
        due("digest() behind " + what, x.digest(), h);
    }

    static void end() {
        System.out.println(asked + " answers, " + wrong + " not as due");
        if (wrong != 0 || asked == 0) {
            System.exit(1);
        }
    }
}
