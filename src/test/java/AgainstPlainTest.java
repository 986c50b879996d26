import java.util.Random;

/** Promises 1 to 21: random runs of calls, each answer beside that of the plain reading of the document. */
public final class AgainstPlainTest {
    private static final int RUNS = 800;
    private static final int CALLS = 60;
    private static final int[] FAR = {Integer.MIN_VALUE, Integer.MAX_VALUE, Integer.MIN_VALUE + 1, 1 << 16, 256, -256};

    private final Random random;
    private final PocketKeeper x = new PocketKeeper();
    private final PlainKeeper y = new PlainKeeper();
    private final StringBuilder said = new StringBuilder();

    private AgainstPlainTest(int seed) {
        random = new Random(seed);
    }

    public static void main(String[] args) {
        for (int seed = 0; seed < RUNS; seed++) {
            new AgainstPlainTest(seed).run();
        }
        Due.end();
    }

    private void run() {
        tellJobs();
        for (int i = 0; i < CALLS; i++) {
            call();
        }
        same("digest()", x.digest(), y.digest());
    }

    private void same(String call, long got, long want) {
        said.append(call).append(' ');
        Due.due(said.length() > 900 ? call : said.toString(), got, want);
    }

    private void tellJobs() {
        same("blank()", x.blank(), y.blank());
        int many = 1 + random.nextInt(8);
        int pick = 1 + random.nextInt(5);
        StringBuilder text = new StringBuilder();
        for (int i = 0; i < many; i++) {
            text.append(i == 0 ? "" : ",").append(randomJob(pick));
        }
        for (int i = 0; i < text.length(); i++) {
            same("letter(" + (int) text.charAt(i) + ")", x.letter(text.charAt(i)), y.letter(text.charAt(i)));
        }
        same("fault()", x.fault(), y.fault());
        same("jobs()", x.jobs(), y.jobs());
    }

    private String randomJob(int pick) {
        StringBuilder job = new StringBuilder();
        int one = random.nextInt(8);
        for (int tool = 0; tool < 8; tool++) {
            if (tool == one || random.nextInt(8) < pick - 1) {
                job.append((char) ('a' + tool));
            }
        }
        return job.toString();
    }

    private int near(int limit) {
        switch (random.nextInt(50)) {
            case 0: return random.nextInt(40) - 15;
            case 1: return random.nextBoolean() ? -1 : limit;
            case 2: return FAR[random.nextInt(FAR.length)];
            default: return random.nextInt(limit);
        }
    }

    private void call() {
        int a = near(8);
        int b = near(8);
        boolean is = random.nextBoolean();
        switch (random.nextInt(20)) {
            case 0: {
                int code = random.nextInt(5) == 0 ? random.nextInt(140) : random.nextInt(4) == 0 ? ',' : 'a' + near(8);
                same("letter(" + code + ")", x.letter(code), y.letter(code));
                break;
            }
            case 1: same("fault()", x.fault(), y.fault()); break;
            case 2:
                if (random.nextInt(8) == 0) tellJobs();
                else same("jobs()", x.jobs(), y.jobs());
                break;
            case 3: same("big(" + a + ", " + is + ")", x.big(a, is), y.big(a, is)); break;
            case 4: {
                int v = near(13);
                same("pockets(" + v + ")", x.pockets(v), y.pockets(v));
                break;
            }
            case 5: case 6: same("breaks(" + a + ", " + b + ", " + is + ")", x.breaks(a, b, is), y.breaks(a, b, is)); break;
            case 7: same("swap(" + a + ", " + b + ")", x.swap(a, b), y.swap(a, b)); break;
            case 8: {
                int kind = near(3);
                same("as(" + a + ", " + kind + ")", x.as(a, kind), y.as(a, kind));
                break;
            }
            case 9: {
                int what = near(3);
                same("job(" + a + ", " + what + ")", x.job(a, what), y.job(a, what));
                break;
            }
            case 10: same("next(" + a + ", " + b + ")", x.next(a, b), y.next(a, b)); break;
            case 11: same("soonest(" + a + ", " + (b & 3) + ")", x.soonest(a, b & 3), y.soonest(a, b & 3)); break;
            case 12: same("plan(" + a + ", " + (b & 3) + ")", x.plan(a, b & 3), y.plan(a, b & 3)); break;
            case 13: {
                int what = near(5);
                same("cost(" + what + ")", x.cost(what), y.cost(what));
                break;
            }
            case 14: same("mean()", x.mean(), y.mean()); break;
            case 15: same("ratio()", x.ratio(), y.ratio()); break;
            case 16: {
                int what = near(3);
                same("pair(" + what + ")", x.pair(what), y.pair(what));
                break;
            }
            case 17:
                if (random.nextInt(3) == 0) same("better()", x.better(), y.better());
                else same("digest()", x.digest(), y.digest());
                break;
            case 18: {
                int what = near(8);
                same("count(" + what + ")", x.count(what), y.count(what));
                break;
            }
            default:
                if (random.nextInt(6) == 0) same("blank()", x.blank(), y.blank());
                else same("soonest(" + a + ", " + b + ")", x.soonest(a, b), y.soonest(a, b));
                break;
        }
    }
}
