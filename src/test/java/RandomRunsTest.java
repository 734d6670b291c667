import java.util.Random;
import java.util.TreeSet;

/** Long runs of calls with fixed seeds: every answer and every digest is the one of the reference model. */
final class RandomRunsTest {
    private static final int RUNS = 600;
    // With the 40 settings ahead and the digests between them they stay under 512 calls.
    private static final int CALLS = 410;

    private final Random random;
    private final LinkEstablisher x = new LinkEstablisher();
    private final ReferenceModel model = new ReferenceModel();
    private final int wrongOneIn;
    private final int goodQuality;
    private final int longestPass;

    private RandomRunsTest(int seed) {
        random = new Random(seed);
        wrongOneIn = seed % 3 == 0 ? 8 : 60;
        goodQuality = seed % 10 == 0 ? 30 : 8 + seed % 23;
        longestPass = seed % 4 == 0 ? 1000 : 12;
    }

    public static void main(String[] args) {
        TreeSet<String> ways = new TreeSet<>();
        for (int seed = 0; seed < RUNS; seed++) {
            RandomRunsTest run = new RandomRunsTest(seed);
            Check.due("run " + seed + " goes wrong at call", run.firstWrongCall(), -1);
            ways.addAll(run.model.ways);
        }
        String[] wanted = {"a draw just at the edge", "an old state dropped", "call: no ACKNOWLEDGE in attempt 1",
            "call: no ACKNOWLEDGE in attempt 2 or later", "call: no CALL in attempt 1",
            "call: no CALL in attempt 2 or later", "call: no RESPONSE in attempt 1",
            "call: no RESPONSE in attempt 2 or later", "call: not scanned in attempt 1",
            "call: not scanned in attempt 2 or later", "call: success in attempt 1",
            "call: success in attempt 2 or later", "decoded with a vote that is not unanimous", "hangUp: left 0",
            "hangUp: left 2", "hangUp: left 3", "hangUp: left 4", "net: linked 0", "net: linked 1", "net: linked 2",
            "net: linked 3", "net: linked 4", "net: member linked", "net: no ACKNOWLEDGE", "net: no CALL",
            "net: no RESPONSE", "net: not scanned", "sound decoded by 0", "sound decoded by 1", "sound decoded by 2",
            "sound decoded by 3", "sound decoded by 4"};
        for (String way : wanted) {
            Check.holds("some run went the way '" + way + "'", ways.contains(way));
        }
        Check.finish("RandomRunsTest");
    }

    private int firstWrongCall() {
        prepareQualities();
        for (int call = 0; call < CALLS; call++) {
            if (!callAgrees(random.nextInt(100)) || call % 8 == 0 && x.digest() != model.digest()) {
                return call;
            }
        }
        return x.digest() == model.digest() ? -1 : CALLS;
    }

    private void prepareQualities() {
        for (int i = 0; i < 40; i++) {
            int station = random.nextInt(5);
            int other = (station + 1 + random.nextInt(4)) % 5;
            int channel = random.nextInt(8);
            int quality = Math.min(30, goodQuality + random.nextInt(10));
            x.setQuality(station, other, channel, quality);
            model.setQuality(station, other, channel, quality);
        }
    }

    private boolean callAgrees(int kind) {
        if (kind < 60) {
            return changeAgrees(kind);
        }
        return askAgrees(kind);
    }

    private boolean changeAgrees(int kind) {
        if (kind < 5) {
            int station = station();
            int channels = number(1, 255);
            return agree(x.setScan(station, channels), model.setScan(station, channels));
        }
        if (kind < 11) {
            int a = station();
            int b = station();
            int c = channel();
            int quality = number(random.nextInt(3) == 0 ? 0 : goodQuality, 30);
            return agree(x.setQuality(a, b, c, quality), model.setQuality(a, b, c, quality));
        }
        if (kind < 13) {
            int slots = number(1, random.nextBoolean() ? 99 : 4);
            return agree(x.setAgeing(slots), model.setAgeing(slots));
        }
        if (kind < 15) {
            int state = number(0, Integer.MAX_VALUE);
            return agree(x.setNoise(state), model.setNoise(state));
        }
        if (kind < 19) {
            int slots = number(1, longestPass);
            return agree(x.pass(slots), model.pass(slots));
        }
        if (kind < 29) {
            int a = station();
            int c = channel();
            return agree(x.sound(a, c), model.sound(a, c));
        }
        if (kind < 38) {
            int a = station();
            int b = station();
            return agree(x.call(a, b), model.call(a, b));
        }
        if (kind < 46) {
            int a = station();
            int members = members(a);
            return agree(x.netCall(a, members), model.netCall(a, members));
        }
        if (kind < 54) {
            int a = station();
            return agree(x.hangUp(a), model.hangUp(a));
        }
        return agree(x.undo(), model.undo());
    }

    private boolean askAgrees(int kind) {
        int a = station();
        int b = station();
        int c = channel();
        switch (kind) {
            case 60: return agree(x.attempts(), model.attempts());
            case 61: return agree(x.lastChannel(), model.lastChannel());
            case 62: return agree(x.lastUnanimous(), model.lastUnanimous());
            case 63: return agree(x.lastVoted(), model.lastVoted());
            case 64: return agree(x.scan(a), model.scan(a));
            case 65: case 66: return agree(x.listening(a), model.listening(a));
            case 67: return agree(x.quality(a, b, c), model.quality(a, b, c));
            case 68: return agree(x.score(a, b, c), model.score(a, b, c));
            case 69: return agree(x.effective(a, b, c), model.effective(a, b, c));
            case 70: case 71: return agree(x.bestChannel(a, b), model.bestChannel(a, b));
            case 72: case 73:
                int members = members(a);
                return agree(x.netChannel(a, members), model.netChannel(a, members));
            case 74: return agree(x.link(a), model.link(a));
            case 75: return agree(x.linkChannel(a), model.linkChannel(a));
            case 76: return agree(x.time(), model.time());
            case 77: return agree(x.transmitted(), model.transmitted());
            case 78: return agree(x.decoded(), model.decoded());
            case 79:
                int p = number(0, 16777215);
                int q = number(0, 16777215);
                int r = number(0, 16777215);
                return agree(x.vote(p, q, r), model.vote(p, q, r));
            case 80:
                int error = number(0, 1);
                return agree(x.errorCount(error), model.errorCount(error));
            default: return agree(x.digest(), model.digest());
        }
    }

    private static boolean agree(long answer, long due) {
        return answer == due;
    }

    private int station() {
        return number(0, 4);
    }

    private int channel() {
        return number(0, 7);
    }

    private int members(int caller) {
        int members = random.nextInt(4) == 0 ? 31 : number(1, 31);
        return random.nextInt(wrongOneIn) == 0 ? members : members & ~(1 << Math.max(caller, 0));
    }

    private int number(int low, int high) {
        if (random.nextInt(wrongOneIn) != 0) {
            return low + (int) (random.nextDouble() * (high - (double) low + 1));
        }
        int[] edges = {low - 1, low, high, high + 1, Integer.MIN_VALUE, Integer.MAX_VALUE, -1, 0};
        return edges[random.nextInt(edges.length)];
    }
}
