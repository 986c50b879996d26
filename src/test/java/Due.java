/** Counts the answers of a test that are not the ones that are due. */
final class Due {
    private static int asked = 0;
    private static int wrong = 0;

    private Due() {
    }

    static void due(String call, long got, long want) {
        asked++;
        if (got != want) {
            wrong++;
            System.out.println(call + " answered " + got + ", due is " + want);
        }
    }

    static void holds(String what, boolean is) {
        due(what, is ? 1 : 0, 1);
    }

    static void write(PocketKeeper keeper, String text) {
        for (int i = 0; i < text.length(); i++) {
            keeper.letter(text.charAt(i));
        }
    }

    /** A new object whose jobs are a text. */
    static PocketKeeper of(String text) {
        PocketKeeper keeper = new PocketKeeper();
        write(keeper, text);
        int many = text.split(",").length;
        due("jobs() of " + text, keeper.jobs(), many);
        return keeper;
    }

    /** Tools by their letters, as bits. */
    static int bits(String tools) {
        int bits = 0;
        for (int i = 0; i < tools.length(); i++) {
            bits |= 1 << (tools.charAt(i) - 'a');
        }
        return bits;
    }

    static void end() {
        System.out.println(asked + " answers, " + wrong + " not as due");
        if (wrong != 0 || asked == 0) {
            System.exit(1);
        }
    }
}
