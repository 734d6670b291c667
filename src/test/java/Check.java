import java.util.function.Function;
import java.util.function.Supplier;

/** Compares answers with what is due, and ends a test's program with the count. */
final class Check {
    static final int[] EXTREMES = {Integer.MIN_VALUE, Integer.MIN_VALUE + 1, Integer.MAX_VALUE - 1, Integer.MAX_VALUE};

    private static int passed = 0;
    private static int failed = 0;

    private Check() {
    }

    static void due(String what, long got, long want) {
        if (got == want) {
            passed++;
        } else {
            failed++;
            System.out.println(what + " answered " + got + ", due is " + want);
        }
    }

    static void holds(String what, boolean fact) {
        due(what, fact ? 1 : 0, 1);
    }

    /** A wrong call answers the code, and leaves the object as another wrong call of that kind does. */
    static void refused(String what, Supplier<LinkEstablisher> history, int code, Function<LinkEstablisher, Integer> call) {
        LinkEstablisher tried = history.get();
        LinkEstablisher other = history.get();
        due(what, call.apply(tried), code);
        int wrong = code == LinkEstablisher.INVALID ? other.errorCount(9) : other.hangUp(unlinked(other));
        due("the other wrong call", wrong, code);
        due(what + " then errorCount(0)", tried.errorCount(0), other.errorCount(0));
        due(what + " then errorCount(1)", tried.errorCount(1), other.errorCount(1));
        due(what + " then digest()", tried.digest(), other.digest());
        due(what + " then undo()", tried.undo(), other.undo());
        due(what + " then undo() and digest()", tried.digest(), other.digest());
    }

    private static int unlinked(LinkEstablisher x) {
        for (int station = 0; station < 5; station++) {
            if (x.link(station) == 0) {
                return station;
            }
        }
        throw new IllegalStateException("the history links every station");
    }

    /** Wrong in one argument: values below and above the range and the extreme ones. */
    static void refusedOutside(String what, Supplier<LinkEstablisher> history, int low, int high,
            Function<Integer, Function<LinkEstablisher, Integer>> call) {
        refusedValue(what, history, low - 1, call);
        if (high != Integer.MAX_VALUE) {
            refusedValue(what, history, high + 1, call);
        }
        for (int value : EXTREMES) {
            if (value < low || value > high) {
                refusedValue(what, history, value, call);
            }
        }
    }

    private static void refusedValue(String what, Supplier<LinkEstablisher> history, int value,
            Function<Integer, Function<LinkEstablisher, Integer>> call) {
        refused(what + " with " + value, history, LinkEstablisher.INVALID, call.apply(value));
    }

    /**
     * The digest as promise 30 tells it, from the other answers and what no answer tells. It takes 347 calls,
     * so a test that uses it twice leans on the class to answer as ever behind the 512th call, as it does.
     */
    static long digestOf(LinkEstablisher x, int savedStates, int ageing, int noise) {
        long h = 12164;
        long[] first = {x.errorCount(0), x.errorCount(1), savedStates, x.time(), ageing, noise, x.transmitted(),
            x.decoded(), x.attempts(), x.lastChannel(), x.lastUnanimous(), x.lastVoted()};
        for (long v : first) {
            h = 31 * h + v;
        }
        for (int station = 0; station < 5; station++) {
            h = 31 * h + x.scan(station);
            h = 31 * h + x.link(station);
            h = 31 * h + x.linkChannel(station);
        }
        for (int station = 0; station < 5; station++) {
            for (int other = 0; other < 5; other++) {
                if (other == station) {
                    continue;
                }
                for (int channel = 0; channel < 8; channel++) {
                    h = 31 * h + x.score(station, other, channel);
                    h = 31 * h + x.effective(station, other, channel);
                }
            }
        }
        return h;
    }

    /** The noise state after so many draws. */
    static int noiseAfter(long state, int draws) {
        for (int i = 0; i < draws; i++) {
            state = (state * 1103515245L + 12345L) % 2147483648L;
        }
        return (int) state;
    }

    /** A network without noise: every pair has the quality 30 on every channel. */
    static LinkEstablisher quiet() {
        LinkEstablisher x = new LinkEstablisher();
        for (int station = 0; station < 5; station++) {
            for (int other = station + 1; other < 5; other++) {
                for (int channel = 0; channel < 8; channel++) {
                    x.setQuality(station, other, channel, 30);
                }
            }
        }
        return x;
    }

    /** Stations 0 and 1 are linked on channel 0, the others are free. */
    static LinkEstablisher linked() {
        LinkEstablisher x = quiet();
        due("linked(): call(0, 1)", x.call(0, 1), 0);
        return x;
    }

    static void finish(String test) {
        System.out.println(test + ": " + passed + " passed, " + failed + " failed");
        if (failed != 0 || passed == 0) {
            System.exit(1);
        }
    }
}
