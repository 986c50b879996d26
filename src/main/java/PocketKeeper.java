/**
 * A magazine with few pockets for the tools of a row of jobs: what comes and goes, what it costs, and
 * which two jobs to change about. The words in capitals are those of the document.
 */
public final class PocketKeeper {
    public static final int NONE = -1, UNKNOWN = -1001, OUTSIDE = -1002, STATE = -1003, FULL = -1004;

    private static final int TOOLS = 8;
    private static final int MOST_JOBS = 8;
    private static final int MOST_LETTERS = 71;
    private static final int TOOL_SETS = 1 << TOOLS;
    private static final char FIRST_TOOL = 'a';
    private static final char BETWEEN_JOBS = ',';

    private static final int FEWEST_POCKETS = 2;
    private static final int MOST_POCKETS = 12;
    private static final int FIRST_POCKETS = 4;

    private static final int ANY_KIND = 0;
    private static final int BIG_KIND = 2;

    private static final int NO_REFUSAL = 0;

    private static final int JOB_NUMBERS = 3;
    private static final int KEEPING_NUMBERS = 4;
    private static final int COST_NUMBERS = 5;
    private static final int PAIR_NUMBERS = 3;
    private static final int COUNT_NUMBERS = 8;

    /** Quotients here lie between 1/8 and 96, so a few halvings or doublings bring each to 1 up to 2. */
    private static final int MOST_SCALINGS = 16;

    /** A job costs twelve pockets at most, so eight jobs cost 96 at most. */
    private static final int ABOVE_ALL_COSTS = 1_000;

    private final Page page;
    private final Magazine magazine;
    private final Row row;
    private final LeastSearch search;
    private final Keeping bySoonest;
    private final Keeping byPlan;
    private final Exchange exchange;
    private boolean keepingsStand;
    private boolean exchangeStands;

    public PocketKeeper() {
        page = new Page();
        magazine = new Magazine();
        row = new Row();
        search = new LeastSearch(row, magazine);
        bySoonest = new SoonestKeeping(row, magazine);
        byPlan = new PlanKeeping(row, magazine, search);
        exchange = new Exchange(row, search);
    }

    // ---- texts

    public int letter(int code) {
        if (code < 32 || code > 126) {
            return OUTSIDE;
        }
        if (page.isFull()) {
            return FULL;
        }
        page.write(code);
        return page.length();
    }

    public int blank() {
        int had = page.length();
        page.wipe();
        return had;
    }

    public int fault() {
        return page.firstFault();
    }

    public int jobs() {
        if (!row.read(page)) {
            return STATE;
        }
        page.wipe();
        forgetKeepings();
        return row.size();
    }

    // ---- what is told

    public int big(int tool, boolean is) {
        if (!isTool(tool)) {
            return UNKNOWN;
        }
        int was = hasTool(magazine.bigTools(), tool) ? 1 : 0;
        magazine.setBig(tool, is);
        forgetKeepings();
        return was;
    }

    public int pockets(int v) {
        if (v < FEWEST_POCKETS || v > MOST_POCKETS) {
            return OUTSIDE;
        }
        int were = magazine.room();
        magazine.setRoom(v);
        forgetKeepings();
        return were;
    }

    public int breaks(int place, int tool, boolean is) {
        if (!row.isPlace(place) || !isTool(tool)) {
            return UNKNOWN;
        }
        int was = hasTool(row.broken(place), tool) ? 1 : 0;
        row.setBreak(place, tool, is);
        forgetKeepings();
        return was;
    }

    public int swap(int a, int b) {
        if (!row.isPlace(a) || !row.isPlace(b)) {
            return UNKNOWN;
        }
        changeOrder(a, b);
        return row.changes();
    }

    // ---- tools, jobs

    public int as(int tool, int kind) {
        if (!isTool(tool)) {
            return UNKNOWN;
        }
        if (kind < ANY_KIND || kind > BIG_KIND) {
            return OUTSIDE;
        }
        boolean isSuch = kind == ANY_KIND || hasTool(magazine.bigTools(), tool) == (kind == BIG_KIND);
        return isSuch ? tool : NONE;
    }

    public int job(int place, int what) {
        if (!row.isPlace(place)) {
            return UNKNOWN;
        }
        switch (what) {
            case 0:
                return row.needs(place);
            case 1:
                return row.number(place);
            case 2:
                return row.broken(place);
            default:
                return OUTSIDE;
        }
    }

    public int next(int place, int tool) {
        if (!row.isPlace(place) || !isTool(tool)) {
            return UNKNOWN;
        }
        return row.nextPlace(place, tool);
    }

    // ---- keeping

    public int soonest(int place, int what) {
        int refusal = refusalOfKeeping(place, what);
        if (refusal != NO_REFUSAL) {
            return refusal;
        }
        standKeepings();
        return numberOfKeeping(bySoonest, place, what);
    }

    public int plan(int place, int what) {
        int refusal = refusalOfKeeping(place, what);
        if (refusal != NO_REFUSAL) {
            return refusal;
        }
        standKeepings();
        return numberOfKeeping(byPlan, place, what);
    }

    public int cost(int what) {
        if (what < 0 || what >= COST_NUMBERS) {
            return OUTSIDE;
        }
        if (!canKeep()) {
            return STATE;
        }
        standKeepings();
        return numberOfCost(what);
    }

    public long mean() {
        if (!canKeep()) {
            return STATE;
        }
        standKeepings();
        return bitsOfMean();
    }

    public int ratio() {
        if (!canKeep()) {
            return STATE;
        }
        standKeepings();
        return bitsOfRatio();
    }

    public int pair(int what) {
        if (what < 0 || what >= PAIR_NUMBERS) {
            return OUTSIDE;
        }
        if (!canKeep()) {
            return STATE;
        }
        standExchange();
        return numberOfExchange(what);
    }

    public int better() {
        if (!canKeep()) {
            return STATE;
        }
        standExchange();
        if (!exchange.isFound()) {
            return NONE;
        }
        changeOrder(exchange.first(), exchange.second());
        return exchange.leastThen();
    }

    // ---- what is told of all

    public int count(int what) {
        switch (what) {
            case 0:
                return row.size();
            case 1:
                return page.length();
            case 2:
                return magazine.room();
            case 3:
                return magazine.bigTools();
            case 4:
                return row.allBreaks();
            case 5:
                return row.changes();
            case 6:
                return row.reads();
            case 7:
                return isTooBig() ? 1 : 0;
            default:
                return OUTSIDE;
        }
    }

    public long digest() {
        long h = digestOfRow(1699L);
        if (canKeep()) {
            standKeepings();
            standExchange();
            h = digestOfKeepings(h);
        }
        for (int i = 0; i < page.length(); i++) {
            h = 31L * h + page.codeAt(i);
        }
        for (int what = 0; what < COUNT_NUMBERS; what++) {
            h = 31L * h + count(what);
        }
        return h;
    }

    private long digestOfRow(long begin) {
        long h = begin;
        for (int place = 0; place < row.size(); place++) {
            for (int what = 0; what < JOB_NUMBERS; what++) {
                h = 31L * h + job(place, what);
            }
            for (int tool = 0; tool < TOOLS; tool++) {
                h = 31L * h + next(place, tool);
            }
        }
        return h;
    }

    private long digestOfKeepings(long begin) {
        long h = begin;
        for (int place = 0; place < row.size(); place++) {
            for (int what = 0; what < KEEPING_NUMBERS; what++) {
                h = 31L * h + numberOfKeeping(bySoonest, place, what);
            }
            for (int what = 0; what < KEEPING_NUMBERS; what++) {
                h = 31L * h + numberOfKeeping(byPlan, place, what);
            }
        }
        for (int what = 0; what < COST_NUMBERS; what++) {
            h = 31L * h + numberOfCost(what);
        }
        h = 31L * h + bitsOfMean();
        h = 31L * h + bitsOfRatio();
        for (int what = 0; what < PAIR_NUMBERS; what++) {
            h = 31L * h + numberOfExchange(what);
        }
        return h;
    }

    // ---- what the calls share

    private int refusalOfKeeping(int place, int what) {
        if (!row.isPlace(place)) {
            return UNKNOWN;
        }
        if (what < 0 || what >= KEEPING_NUMBERS) {
            return OUTSIDE;
        }
        return isTooBig() ? STATE : NO_REFUSAL;
    }

    private int numberOfKeeping(Keeping keeping, int place, int what) {
        switch (what) {
            case 0:
                return keeping.inside(place);
            case 1:
                return keeping.coming(place);
            case 2:
                return keeping.going(place);
            default:
                return magazine.sizeOf(keeping.coming(place));
        }
    }

    private int numberOfCost(int what) {
        switch (what) {
            case 0:
                return bySoonest.totalCost();
            case 1:
                return byPlan.totalCost();
            case 2:
                return magazine.sizeOf(row.allNeeds());
            case 3:
                return bySoonest.totalComing();
            default:
                return byPlan.totalComing();
        }
    }

    private long bitsOfMean() {
        int many = row.size();
        return many > 0 ? bitsOfDouble((double) bySoonest.totalCost() / (double) many) : NONE;
    }

    /** Every job needs a tool and the magazine is empty at first, so LEAST is above zero: the test is rule 7's. */
    private int bitsOfRatio() {
        int least = byPlan.totalCost();
        return least > 0 ? bitsOfFloat((float) bySoonest.totalCost() / (float) least) : NONE;
    }

    private int numberOfExchange(int what) {
        if (!exchange.isFound()) {
            return NONE;
        }
        switch (what) {
            case 0:
                return exchange.first();
            case 1:
                return exchange.second();
            default:
                return exchange.leastThen();
        }
    }

    private void changeOrder(int a, int b) {
        row.exchange(a, b);
        row.countChange();
        forgetKeepings();
    }

    private boolean canKeep() {
        return row.size() > 0 && !isTooBig();
    }

    private boolean isTooBig() {
        for (int place = 0; place < row.size(); place++) {
            if (!magazine.holds(row.needs(place))) {
                return true;
            }
        }
        return false;
    }

    /** Keepings are worked out once after a change, since one digest asks for each of them many times. */
    private void forgetKeepings() {
        keepingsStand = false;
        exchangeStands = false;
    }

    private void standKeepings() {
        if (!keepingsStand) {
            bySoonest.keepAll();
            // THE PLAN is read from the search's table, which each search for a pair writes over
            search.least();
            byPlan.keepAll();
            keepingsStand = true;
        }
    }

    private void standExchange() {
        if (!exchangeStands) {
            exchange.find();
            exchangeStands = true;
        }
    }

    private static boolean isTool(int tool) {
        return tool >= 0 && tool < TOOLS;
    }

    private static boolean hasTool(int tools, int tool) {
        return ((tools >> tool) & 1) == 1;
    }

    private static int withTool(int tools, int tool, boolean is) {
        return is ? tools | (1 << tool) : tools & ~(1 << tool);
    }

    /** The library's own conversion is not among what LANGUAGE.md allows; the quotients are above zero. */
    private static long bitsOfDouble(double quotient) {
        double part = quotient;
        long exponent = 1023L;
        for (int i = 0; i < MOST_SCALINGS && part >= 2.0; i++) {
            part = part / 2.0;
            exponent++;
        }
        for (int i = 0; i < MOST_SCALINGS && part < 1.0; i++) {
            part = part * 2.0;
            exponent--;
        }
        return (exponent << 52) + (long) ((part - 1.0) * (double) (1L << 52));
    }

    /** A ratio is never below one, so there is nothing to double. */
    private static int bitsOfFloat(float quotient) {
        float part = quotient;
        int exponent = 127;
        for (int i = 0; i < MOST_SCALINGS && part >= 2.0f; i++) {
            part = part / 2.0f;
            exponent++;
        }
        return (exponent << 23) + (int) ((part - 1.0f) * (float) (1 << 23));
    }

    /** THE PAGE: letters that may become JOBS. */
    private static final class Page {
        private final char[] letters = new char[MOST_LETTERS];
        private int length;

        int length() {
            return length;
        }

        boolean isFull() {
            return length >= MOST_LETTERS;
        }

        void write(int code) {
            if (!isFull()) {
                letters[length] = (char) code;
                length++;
            }
        }

        void wipe() {
            length = 0;
        }

        int codeAt(int place) {
            return place >= 0 && place < length ? letters[place] : NONE;
        }

        int firstFault() {
            int jobsBegun = 1;
            int lastTool = NONE;
            for (int place = 0; place < length; place++) {
                if (letters[place] == BETWEEN_JOBS) {
                    if (lastTool == NONE || jobsBegun == MOST_JOBS) {
                        return place;
                    }
                    jobsBegun++;
                    lastTool = NONE;
                } else {
                    int tool = letters[place] - FIRST_TOOL;
                    if (tool <= lastTool || tool >= TOOLS) {
                        return place;
                    }
                    lastTool = tool;
                }
            }
            return length;
        }

        boolean isWhole() {
            return length > 0 && letters[length - 1] != BETWEEN_JOBS && firstFault() == length;
        }
    }

    /** How large TOOLS are, and how much of them there is room for. */
    private static final class Magazine {
        private int bigTools;
        private int room = FIRST_POCKETS;

        int bigTools() {
            return bigTools;
        }

        int room() {
            return room;
        }

        void setBig(int tool, boolean is) {
            bigTools = withTool(bigTools, tool, is);
        }

        void setRoom(int pockets) {
            room = pockets;
        }

        int sizeOf(int tools) {
            return Integer.bitCount(tools) + Integer.bitCount(tools & bigTools);
        }

        boolean holds(int tools) {
            return sizeOf(tools) <= room;
        }
    }

    /** JOBS in their ORDER, and the BREAKS at their PLACES. */
    private static final class Row {
        private final int[] needsAsTold = new int[MOST_JOBS];
        private final int[] numbers = new int[MOST_JOBS];
        private final int[] broken = new int[MOST_JOBS];
        private int size;
        private int changes;
        private int reads;

        int size() {
            return size;
        }

        int changes() {
            return changes;
        }

        int reads() {
            return reads;
        }

        boolean isPlace(int place) {
            return place >= 0 && place < size;
        }

        int needs(int place) {
            return needsAsTold[numbers[place]];
        }

        int number(int place) {
            return numbers[place];
        }

        int broken(int place) {
            return broken[place];
        }

        /** Only a whole page is read: its jobs are no more than there is room for, but the index is looked at here too. */
        boolean read(Page page) {
            if (!page.isWhole()) {
                return false;
            }
            clear();
            int number = 0;
            for (int i = 0; i < page.length() && number < MOST_JOBS; i++) {
                if (page.codeAt(i) == BETWEEN_JOBS) {
                    number++;
                } else {
                    needsAsTold[number] |= 1 << (page.codeAt(i) - FIRST_TOOL);
                }
            }
            size = number + 1;
            reads++;
            return true;
        }

        private void clear() {
            for (int i = 0; i < MOST_JOBS; i++) {
                needsAsTold[i] = 0;
                numbers[i] = i;
                broken[i] = 0;
            }
            changes = 0;
        }

        void setBreak(int place, int tool, boolean is) {
            broken[place] = withTool(broken[place], tool, is);
        }

        void exchange(int a, int b) {
            int number = numbers[a];
            numbers[a] = numbers[b];
            numbers[b] = number;
        }

        void countChange() {
            changes++;
        }

        int nextPlace(int place, int tool) {
            for (int behind = place + 1; behind < size; behind++) {
                if (hasTool(broken[behind - 1], tool)) {
                    return NONE;
                }
                if (hasTool(needs(behind), tool)) {
                    return behind;
                }
            }
            return NONE;
        }

        int allNeeds() {
            int tools = 0;
            for (int place = 0; place < size; place++) {
                tools |= needs(place);
            }
            return tools;
        }

        int allBreaks() {
            int sum = 0;
            for (int place = 0; place < size; place++) {
                sum += Integer.bitCount(broken[place]);
            }
            return sum;
        }
    }

    /** A KEEPING, PLACE by PLACE; its kinds differ in what stays. */
    private abstract static class Keeping {
        final Row row;
        final Magazine magazine;
        private final int[] inside = new int[MOST_JOBS];
        private final int[] coming = new int[MOST_JOBS];
        private final int[] going = new int[MOST_JOBS];

        Keeping(Row row, Magazine magazine) {
            this.row = row;
            this.magazine = magazine;
        }

        /** What stays at a place, of tools that were there ahead of it and that its job does not need. */
        abstract int staying(int place, int unneeded);

        void keepAll() {
            int ahead = 0;
            for (int place = 0; place < row.size(); place++) {
                int needs = row.needs(place);
                inside[place] = needs | staying(place, ahead & ~needs);
                coming[place] = needs & ~ahead;
                going[place] = ahead & ~inside[place];
                ahead = inside[place] & ~row.broken(place);
            }
        }

        int inside(int place) {
            return inside[place];
        }

        int coming(int place) {
            return coming[place];
        }

        int going(int place) {
            return going[place];
        }

        int totalCost() {
            int sum = 0;
            for (int place = 0; place < row.size(); place++) {
                sum += magazine.sizeOf(coming[place]);
            }
            return sum;
        }

        int totalComing() {
            int sum = 0;
            for (int place = 0; place < row.size(); place++) {
                sum += Integer.bitCount(coming[place]);
            }
            return sum;
        }
    }

    /** SOONEST. */
    private static final class SoonestKeeping extends Keeping {
        SoonestKeeping(Row row, Magazine magazine) {
            super(row, magazine);
        }

        int staying(int place, int unneeded) {
            int stay = unneeded;
            for (int i = 0; i < TOOLS && !magazine.holds(row.needs(place) | stay); i++) {
                stay &= ~(1 << firstToGo(place, stay));
            }
            return stay;
        }

        private int firstToGo(int place, int tools) {
            int first = 0;
            int firstRank = NONE;
            for (int tool = 0; tool < TOOLS; tool++) {
                // not less, so that of like ones that of the greatest number goes
                if (hasTool(tools, tool) && rank(place, tool) >= firstRank) {
                    first = tool;
                    firstRank = rank(place, tool);
                }
            }
            return first;
        }

        /** The later needed the higher, and of like ones the BIG one higher. */
        private int rank(int place, int tool) {
            int nextPlace = row.nextPlace(place, tool);
            int lateness = nextPlace == NONE ? MOST_JOBS : nextPlace;
            return 2 * lateness + (hasTool(magazine.bigTools(), tool) ? 1 : 0);
        }
    }

    /** THE PLAN; the search's table must be that of the row as it is. */
    private static final class PlanKeeping extends Keeping {
        private final LeastSearch search;

        PlanKeeping(Row row, Magazine magazine, LeastSearch search) {
            super(row, magazine);
            this.search = search;
        }

        int staying(int place, int unneeded) {
            return search.leastSetAtLeastCost(place, unneeded);
        }
    }

    /**
     * The search for LEAST. It looks only at tools that were needed ahead of a place and will be needed
     * behind it with no break between: to keep another one saves nothing, and makes the magazine's
     * number greater, so THE PLAN keeps none either.
     */
    private static final class LeastSearch {
        private final Row row;
        private final Magazine magazine;
        private final int[] worthKeeping = new int[MOST_JOBS];
        /** By place and set of tools that may be kept there: the least that all places behind it cost. */
        private final int[] costBehind = new int[MOST_JOBS * TOOL_SETS];

        LeastSearch(Row row, Magazine magazine) {
            this.row = row;
            this.magazine = magazine;
        }

        int least() {
            findWorthKeeping();
            for (int place = row.size() - 1; place >= 0; place--) {
                fillPlace(place);
            }
            return magazine.sizeOf(row.needs(0)) + costBehind[cell(0, 0)];
        }

        int leastSetAtLeastCost(int place, int unneeded) {
            int worth = unneeded & worthKeeping[place];
            int leastCost = costBehind[cell(place, worth)];
            int kept = 0;
            for (int left = subsets(worth); left > 0; left--) {
                // there is room for it: else a set with a tool less, and so a lesser one, costs the same
                if (costBehind[cell(place, kept)] == leastCost) {
                    return kept;
                }
                kept = subsetBehind(worth, kept);
            }
            return worth;
        }

        private void findWorthKeeping() {
            int there = 0;
            for (int place = 0; place < row.size(); place++) {
                worthKeeping[place] = there & ~row.needs(place);
                there = (there | row.needs(place)) & ~row.broken(place);
            }
            int wanted = 0;
            for (int place = row.size() - 1; place >= 0; place--) {
                wanted &= ~row.broken(place);
                worthKeeping[place] &= wanted;
                wanted |= row.needs(place);
            }
        }

        /** Rising, so that a set with a tool less is filled ahead of the set that asks for it. */
        private void fillPlace(int place) {
            int kept = 0;
            for (int left = subsets(worthKeeping[place]); left > 0; left--) {
                costBehind[cell(place, kept)] = magazine.holds(row.needs(place) | kept)
                        ? costIfKept(place, kept) : costOfFewer(place, kept);
                kept = subsetBehind(worthKeeping[place], kept);
            }
        }

        private int costIfKept(int place, int kept) {
            if (place + 1 >= row.size()) {
                return 0;
            }
            int ahead = (row.needs(place) | kept) & ~row.broken(place);
            int coming = row.needs(place + 1) & ~ahead;
            // a tool more never costs more behind, so all that is worth it may be kept if there is room
            return magazine.sizeOf(coming) + costBehind[cell(place + 1, ahead & worthKeeping[place + 1])];
        }

        private int costOfFewer(int place, int kept) {
            int least = ABOVE_ALL_COSTS;
            for (int tool = 0; tool < TOOLS; tool++) {
                if (hasTool(kept, tool)) {
                    least = Math.min(least, costBehind[cell(place, kept & ~(1 << tool))]);
                }
            }
            return least;
        }

        private static int cell(int place, int tools) {
            return place * TOOL_SETS + tools;
        }

        private static int subsets(int tools) {
            return 1 << Integer.bitCount(tools);
        }

        /** The next greater subset; behind the last one the empty one. */
        private static int subsetBehind(int tools, int subset) {
            return (subset - tools) & tools;
        }
    }

    /** BETTER. */
    private static final class Exchange {
        private final Row row;
        private final LeastSearch search;
        private boolean found;
        private int first;
        private int second;
        private int leastThen;

        Exchange(Row row, LeastSearch search) {
            this.row = row;
            this.search = search;
        }

        boolean isFound() {
            return found;
        }

        int first() {
            return first;
        }

        int second() {
            return second;
        }

        int leastThen() {
            return leastThen;
        }

        void find() {
            found = false;
            leastThen = search.least();
            for (int a = 0; a < row.size(); a++) {
                for (int b = a + 1; b < row.size(); b++) {
                    row.exchange(a, b);
                    int least = search.least();
                    row.exchange(a, b);
                    if (least < leastThen) {
                        note(a, b, least);
                    }
                }
            }
        }

        private void note(int a, int b, int least) {
            found = true;
            first = a;
            second = b;
            leastThen = least;
        }
    }
}
