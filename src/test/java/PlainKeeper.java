import java.util.ArrayList;
import java.util.List;
import java.util.TreeSet;

/**
 * The document once more, word by word and slowly: every KEEPING is tried, sets are sets, texts are
 * matched by a pattern. It shares no code and no way of thinking with the class, so that a random run
 * of calls shows where the two read the document differently.
 */
final class PlainKeeper {
    private static final String JOB = "(?!,|$)a?b?c?d?e?f?g?h?";
    private static final String JOBS = JOB + "(," + JOB + "){0,7}";

    private String page = "";
    private final boolean[] big = new boolean[8];
    private int pockets = 4;
    private final List<TreeSet<Integer>> told = new ArrayList<>();
    private final List<Integer> order = new ArrayList<>();
    private final List<TreeSet<Integer>> breaks = new ArrayList<>();
    private int changes = 0;
    private int reads = 0;

    int letter(int code) {
        if (code < 32 || code > 126) return PocketKeeper.OUTSIDE;
        if (page.length() == 71) return PocketKeeper.FULL;
        page += (char) code;
        return page.length();
    }

    int blank() {
        int had = page.length();
        page = "";
        return had;
    }

    int fault() {
        for (int i = 0; i < page.length(); i++) {
            String begin = page.substring(0, i + 1);
            if (!begin.matches(JOBS) && !(begin + "a").matches(JOBS)) return i;
        }
        return page.length();
    }

    int jobs() {
        if (!page.matches(JOBS)) return PocketKeeper.STATE;
        told.clear();
        order.clear();
        breaks.clear();
        for (String job : page.split(",")) {
            TreeSet<Integer> needs = new TreeSet<>();
            for (char c : job.toCharArray()) needs.add(c - 'a');
            order.add(told.size());
            told.add(needs);
            breaks.add(new TreeSet<>());
        }
        page = "";
        changes = 0;
        reads++;
        return told.size();
    }

    int big(int tool, boolean is) {
        if (!tool(tool)) return PocketKeeper.UNKNOWN;
        int was = big[tool] ? 1 : 0;
        big[tool] = is;
        return was;
    }

    int pockets(int v) {
        if (v < 2 || v > 12) return PocketKeeper.OUTSIDE;
        int were = pockets;
        pockets = v;
        return were;
    }

    int breaks(int place, int tool, boolean is) {
        if (!place(place) || !tool(tool)) return PocketKeeper.UNKNOWN;
        boolean was = breaks.get(place).contains(tool);
        if (is) breaks.get(place).add(tool);
        else breaks.get(place).remove(tool);
        return was ? 1 : 0;
    }

    int swap(int a, int b) {
        if (!place(a) || !place(b)) return PocketKeeper.UNKNOWN;
        java.util.Collections.swap(order, a, b);
        return ++changes;
    }

    int as(int tool, int kind) {
        if (!tool(tool)) return PocketKeeper.UNKNOWN;
        if (kind < 0 || kind > 2) return PocketKeeper.OUTSIDE;
        if (kind == 1 && big[tool] || kind == 2 && !big[tool]) return PocketKeeper.NONE;
        return tool;
    }

    int job(int place, int what) {
        if (!place(place)) return PocketKeeper.UNKNOWN;
        if (what == 0) return bits(needs(place));
        if (what == 1) return order.get(place);
        if (what == 2) return bits(breaks.get(place));
        return PocketKeeper.OUTSIDE;
    }

    int next(int place, int tool) {
        if (!place(place) || !tool(tool)) return PocketKeeper.UNKNOWN;
        int first = place + 1;
        while (first < order.size() && !needs(first).contains(tool)) first++;
        if (first == order.size()) return PocketKeeper.NONE;
        for (int at = place; at < first; at++) {
            if (breaks.get(at).contains(tool)) return PocketKeeper.NONE;
        }
        return first;
    }

    int soonest(int place, int what) {
        return tell(place, what, true);
    }

    int plan(int place, int what) {
        return tell(place, what, false);
    }

    int cost(int what) {
        if (what < 0 || what > 4) return PocketKeeper.OUTSIDE;
        if (order.isEmpty() || tooBig()) return PocketKeeper.STATE;
        if (what == 0) return sumOf(soonestMagazines(), false);
        if (what == 1) return leastFrom(0, 0);
        if (what == 2) {
            int sum = 0;
            for (int tool = 0; tool < 8; tool++) {
                int of = tool;
                if (told.stream().anyMatch(needs -> needs.contains(of))) sum += big[tool] ? 2 : 1;
            }
            return sum;
        }
        return sumOf(what == 3 ? soonestMagazines() : planMagazines(), true);
    }

    long mean() {
        if (order.isEmpty() || tooBig()) return PocketKeeper.STATE;
        return Double.doubleToLongBits((double) cost(0) / order.size());
    }

    int ratio() {
        if (order.isEmpty() || tooBig()) return PocketKeeper.STATE;
        return Float.floatToIntBits((float) cost(0) / cost(1));
    }

    int pair(int what) {
        if (what < 0 || what > 2) return PocketKeeper.OUTSIDE;
        if (order.isEmpty() || tooBig()) return PocketKeeper.STATE;
        int[] pair = findPair();
        return pair == null ? PocketKeeper.NONE : pair[what];
    }

    int better() {
        if (order.isEmpty() || tooBig()) return PocketKeeper.STATE;
        int[] pair = findPair();
        if (pair == null) return PocketKeeper.NONE;
        swap(pair[0], pair[1]);
        return cost(1);
    }

    int count(int what) {
        switch (what) {
            case 0: return order.size();
            case 1: return page.length();
            case 2: return pockets;
            case 3: {
                int bits = 0;
                for (int tool = 0; tool < 8; tool++) if (big[tool]) bits += 1 << tool;
                return bits;
            }
            case 4: return breaks.stream().mapToInt(TreeSet::size).sum();
            case 5: return changes;
            case 6: return reads;
            case 7: return tooBig() ? 1 : 0;
            default: return PocketKeeper.OUTSIDE;
        }
    }

    long digest() {
        List<Long> numbers = new ArrayList<>();
        for (int place = 0; place < order.size(); place++) {
            for (int what = 0; what <= 2; what++) numbers.add((long) job(place, what));
            for (int tool = 0; tool < 8; tool++) numbers.add((long) next(place, tool));
        }
        if (!order.isEmpty() && !tooBig()) {
            for (int place = 0; place < order.size(); place++) {
                for (int what = 0; what <= 3; what++) numbers.add((long) soonest(place, what));
                for (int what = 0; what <= 3; what++) numbers.add((long) plan(place, what));
            }
            for (int what = 0; what <= 4; what++) numbers.add((long) cost(what));
            numbers.add(mean());
            numbers.add((long) ratio());
            int[] pair = findPair();
            for (int what = 0; what <= 2; what++) numbers.add(pair == null ? (long) PocketKeeper.NONE : pair[what]);
        }
        for (char c : page.toCharArray()) numbers.add((long) c);
        for (int what = 0; what <= 7; what++) numbers.add((long) count(what));
        long h = 1699;
        for (long number : numbers) h = 31 * h + number;
        return h;
    }

    private boolean tool(int tool) {
        return tool >= 0 && tool <= 7;
    }

    private boolean place(int place) {
        return place >= 0 && place < order.size();
    }

    private TreeSet<Integer> needs(int place) {
        return told.get(order.get(place));
    }

    private int size(int tools) {
        int sum = 0;
        for (int tool = 0; tool < 8; tool++) {
            if ((tools & 1 << tool) != 0) sum += big[tool] ? 2 : 1;
        }
        return sum;
    }

    private boolean tooBig() {
        return told.stream().anyMatch(needs -> size(bits(needs)) > pockets);
    }

    private static int bits(Iterable<Integer> tools) {
        int sum = 0;
        for (int tool : tools) sum += 1 << tool;
        return sum;
    }

    private int tell(int place, int what, boolean bySoonest) {
        if (!place(place)) return PocketKeeper.UNKNOWN;
        if (what < 0 || what > 3) return PocketKeeper.OUTSIDE;
        if (tooBig()) return PocketKeeper.STATE;
        int[] magazines = bySoonest ? soonestMagazines() : planMagazines();
        int ahead = place == 0 ? 0 : magazines[place - 1] & ~bits(breaks.get(place - 1));
        int comes = magazines[place] & ~ahead;
        if (what == 0) return magazines[place];
        if (what == 1) return comes;
        if (what == 2) return ahead & ~magazines[place];
        return size(comes);
    }

    private int sumOf(int[] magazines, boolean many) {
        int ahead = 0;
        int sum = 0;
        for (int place = 0; place < magazines.length; place++) {
            int comes = magazines[place] & ~ahead;
            sum += many ? Integer.bitCount(comes) : size(comes);
            ahead = magazines[place] & ~bits(breaks.get(place));
        }
        return sum;
    }

    private int[] soonestMagazines() {
        int[] magazines = new int[order.size()];
        TreeSet<Integer> inside = new TreeSet<>();
        for (int i = 0; i < order.size(); i++) {
            int place = i;
            inside.addAll(needs(place));
            while (size(bits(inside)) > pockets) {
                List<Integer> mayGo = new ArrayList<>(inside);
                mayGo.removeAll(needs(place));
                mayGo.sort((s, t) -> {
                    int late = Integer.compare(lateness(place, t), lateness(place, s));
                    if (late != 0) return late;
                    if (big[s] != big[t]) return big[s] ? -1 : 1;
                    return t - s;
                });
                inside.remove(mayGo.get(0));
            }
            magazines[place] = bits(inside);
            inside.removeAll(breaks.get(place));
        }
        return magazines;
    }

    private int lateness(int place, int tool) {
        int next = next(place, tool);
        return next == PocketKeeper.NONE ? Integer.MAX_VALUE : next;
    }

    /** The magazines of all KEEPINGS of least cost, the least of them place by place. */
    private int[] planMagazines() {
        int[] magazines = new int[order.size()];
        int[] left = new int[order.size() * 256];
        java.util.Arrays.fill(left, -1);
        int ahead = 0;
        for (int place = 0; place < order.size(); place++) {
            int least = leastFrom(place, ahead, left);
            for (int inside = 255; inside >= 0; inside--) {
                if (may(place, ahead, inside) && costBy(place, ahead, inside, left) == least) magazines[place] = inside;
            }
            ahead = magazines[place] & ~bits(breaks.get(place));
        }
        return magazines;
    }

    private boolean may(int place, int ahead, int inside) {
        int needs = bits(needs(place));
        return (needs & ~inside) == 0 && (inside & ~ahead & ~needs) == 0 && size(inside) <= pockets;
    }

    private int leastFrom(int place, int ahead) {
        int[] left = new int[order.size() * 256];
        java.util.Arrays.fill(left, -1);
        return leastFrom(place, ahead, left);
    }

    private int leastFrom(int place, int ahead, int[] left) {
        if (place == order.size()) return 0;
        if (left[place * 256 + ahead] < 0) {
            int least = Integer.MAX_VALUE;
            for (int inside = 0; inside < 256; inside++) {
                if (may(place, ahead, inside)) least = Math.min(least, costBy(place, ahead, inside, left));
            }
            left[place * 256 + ahead] = least;
        }
        return left[place * 256 + ahead];
    }

    private int costBy(int place, int ahead, int inside, int[] left) {
        return size(inside & ~ahead) + leastFrom(place + 1, inside & ~bits(breaks.get(place)), left);
    }

    private int[] findPair() {
        int[] found = null;
        int least = leastFrom(0, 0);
        for (int a = 0; a < order.size(); a++) {
            for (int b = a + 1; b < order.size(); b++) {
                java.util.Collections.swap(order, a, b);
                int then = leastFrom(0, 0);
                java.util.Collections.swap(order, a, b);
                if (then < least) {
                    least = then;
                    found = new int[] {a, b, then};
                }
            }
        }
        return found;
    }
}
