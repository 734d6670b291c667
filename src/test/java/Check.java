import java.util.function.Function;
import java.util.function.Supplier;

/** Compares answers with what is due, and ends a test's program with the count. */
final class Check {
    static final int[] EXTREMES = {Integer.MIN_VALUE, Integer.MIN_VALUE + 1, Integer.MAX_VALUE - 1, Integer.MAX_VALUE};

    private static int passed = 0;
    private static int failed = 0;

    private Check() {
    }

    static void due(String what, long got, long want) {
        if (got == want) {
            passed++;
        } else {
            failed++;
            System.out.println(what + " answered " + got + ", due is " + want);
        }
    }

    static void holds(String what, boolean fact) {
        due(what, fact ? 1 : 0, 1);
    }

    /**
     * A wrong call answers the code, adds 1 to the counter of its error, and changes nothing else: neither the
     * present state nor one that undo brings back.
     */
    static void refused(String what, Supplier<LinkEstablisher> history, int code, Function<LinkEstablisher, Integer> call) {
        LinkEstablisher tried = history.get();
        LinkEstablisher untouched = history.get();
        int invalid = code == LinkEstablisher.INVALID ? 1 : 0;
        due(what, call.apply(tried), code);
        due(what + " then errorCount(0)", tried.errorCount(0), untouched.errorCount(0) + invalid);
        due(what + " then errorCount(1)", tried.errorCount(1), untouched.errorCount(1) + 1 - invalid);
        for (int undone = 0; undone <= 5; undone++) {
            String where = what + " then " + undone + " times undo()";
            due(where + " and digest()", tried.digest() - errorsInDigest(tried),
                untouched.digest() - errorsInDigest(untouched));
            due(where + " and quality()", qualities(tried), qualities(untouched));
            int left = untouched.undo();
            due(where + " and undo()", tried.undo(), left);
            if (left < 0) {
                return;
            }
        }
        holds(what + ": the undo stack has an end", false);
    }

    /** What the error counters add to the digest: they are the first two of its 347 values. */
    static long errorsInDigest(LinkEstablisher x) {
        return x.errorCount(0) * power31(346) + x.errorCount(1) * power31(345);
    }

    /** What the number of saved states adds to the digest: it is the third value. */
    static long savedInDigest(int savedStates) {
        return savedStates * power31(344);
    }

    private static long power31(int exponent) {
        long power = 1;
        for (int i = 0; i < exponent; i++) {
            power *= 31;
        }
        return power;
    }

    /** The qualities are no part of the digest. */
    static long qualities(LinkEstablisher x) {
        long hash = 0;
        for (int station = 0; station < 5; station++) {
            for (int other = station + 1; other < 5; other++) {
                for (int channel = 0; channel < 8; channel++) {
                    hash = 31 * hash + x.quality(station, other, channel);
                }
            }
        }
        return hash;
    }

    /** What the digest tells of all that undo brings back, whatever the error counters and the undo stack are. */
    static long state(LinkEstablisher x, int savedStates) {
        return x.digest() - errorsInDigest(x) - savedInDigest(savedStates);
    }

    /** Wrong in one argument: values below and above the range and the extreme ones. */
    static void refusedOutside(String what, Supplier<LinkEstablisher> history, int low, int high,
            Function<Integer, Function<LinkEstablisher, Integer>> call) {
        refusedValue(what, history, low - 1, call);
        if (high != Integer.MAX_VALUE) {
            refusedValue(what, history, high + 1, call);
        }
        for (int value : EXTREMES) {
            if (value < low || value > high) {
                refusedValue(what, history, value, call);
            }
        }
    }

    private static void refusedValue(String what, Supplier<LinkEstablisher> history, int value,
            Function<Integer, Function<LinkEstablisher, Integer>> call) {
        refused(what + " with " + value, history, LinkEstablisher.INVALID, call.apply(value));
    }

    /**
     * The digest as promise 30 tells it, from the other answers and what no answer tells. It takes 347 calls,
     * so a test that uses it twice leans on the class to answer as ever behind the 512th call, as it does.
     */
    static long digestOf(LinkEstablisher x, int savedStates, int ageing, int noise) {
        long h = 12164;
        long[] first = {x.errorCount(0), x.errorCount(1), savedStates, x.time(), ageing, noise, x.transmitted(),
            x.decoded(), x.attempts(), x.lastChannel(), x.lastUnanimous(), x.lastVoted()};
        for (long v : first) {
            h = 31 * h + v;
        }
        for (int station = 0; station < 5; station++) {
            h = 31 * h + x.scan(station);
            h = 31 * h + x.link(station);
            h = 31 * h + x.linkChannel(station);
        }
        for (int station = 0; station < 5; station++) {
            for (int other = 0; other < 5; other++) {
                if (other == station) {
                    continue;
                }
                for (int channel = 0; channel < 8; channel++) {
                    h = 31 * h + x.score(station, other, channel);
                    h = 31 * h + x.effective(station, other, channel);
                }
            }
        }
        return h;
    }

    /** The noise state after so many draws. */
    static int noiseAfter(long state, int draws) {
        for (int i = 0; i < draws; i++) {
            state = (state * 1103515245L + 12345L) % 2147483648L;
        }
        return (int) state;
    }

    /** The three copies of a word that arrive, and with them what is drawn. */
    static int[] copies(int word, int quality, int noise) {
        int[] copies = {word, word, word};
        long state = noise;
        for (int i = 0; i < 72; i++) {
            state = (state * 1103515245L + 12345L) % 2147483648L;
            if (2 * (state / 65536 % 31) > 30 + quality) {
                copies[i / 24] ^= 1 << i % 24;
            }
        }
        return copies;
    }

    static int majority(int[] copies) {
        int word = 0;
        for (int bit = 0; bit < 24; bit++) {
            int ones = (copies[0] >> bit & 1) + (copies[1] >> bit & 1) + (copies[2] >> bit & 1);
            word += ones >= 2 ? 1 << bit : 0;
        }
        return word;
    }

    static int unanimous(int[] copies) {
        int unanimous = 0;
        for (int bit = 0; bit < 24; bit++) {
            int ones = (copies[0] >> bit & 1) + (copies[1] >> bit & 1) + (copies[2] >> bit & 1);
            unanimous += ones % 3 == 0 ? 1 : 0;
        }
        return unanimous;
    }

    /** A network without noise: every pair has the quality 30 on every channel. */
    static LinkEstablisher quiet() {
        LinkEstablisher x = new LinkEstablisher();
        for (int station = 0; station < 5; station++) {
            for (int other = station + 1; other < 5; other++) {
                for (int channel = 0; channel < 8; channel++) {
                    x.setQuality(station, other, channel, 30);
                }
            }
        }
        return x;
    }

    /** Stations 0 and 1 are linked on channel 0, the others are free. */
    static LinkEstablisher linked() {
        LinkEstablisher x = quiet();
        due("linked(): call(0, 1)", x.call(0, 1), 0);
        return x;
    }

    /**
     * Stations 0 and 1 are linked on channel 0 and 2 to 4 are free; both errors have been counted; the undo stack is
     * full, an older state has been dropped, and the states on it differ in most that undo brings back.
     */
    static LinkEstablisher busy() {
        LinkEstablisher x = new LinkEstablisher();
        x.setQuality(0, 1, 0, 30);
        x.setAgeing(3);
        due("busy(): call(0, 1)", x.call(0, 1), 0);
        due("busy(): setQuality(2, 3, 5, 30)", x.setQuality(2, 3, 5, 30), 15);
        due("busy(): sound(2, 5)", x.sound(2, 5) & 8, 8);
        x.errorCount(2);
        x.setScan(4, 6);
        x.hangUp(4);
        x.pass(3);
        return x;
    }

    static void finish(String test) {
        System.out.println(test + ": " + passed + " passed, " + failed + " failed");
        if (failed != 0 || passed == 0) {
            System.exit(1);
        }
    }
}
