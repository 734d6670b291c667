import java.util.function.Function;
import java.util.function.IntFunction;
import java.util.function.Supplier;

/**
 * The range of each argument of each method: at both ends the last value that is allowed and the first that is not.
 * An allowed value counts no error; any other answers INVALID and changes nothing but that error's counter.
 */
final class RangesTest {
    private static final int TOP = Integer.MAX_VALUE;
    private static final int TOP_WORD = 16777215;

    /** What the method is called with in its other arguments is allowed for each allowed value of this one. */
    private record Argument(String call, boolean undoable, int low, int high,
            IntFunction<Function<LinkEstablisher, Integer>> with) {
    }

    private static final Argument[] SETTINGS = {
        new Argument("setScan(v, 1)", true, 0, 4, v -> x -> x.setScan(v, 1)),
        new Argument("setScan(4, v)", true, 1, 255, v -> x -> x.setScan(4, v)),
        new Argument("setAgeing(v)", true, 1, 99, v -> x -> x.setAgeing(v)),
        new Argument("setNoise(v)", true, 0, TOP, v -> x -> x.setNoise(v)),
        new Argument("pass(v)", true, 1, 1000, v -> x -> x.pass(v)),
        new Argument("setQuality(2, 3, v, 7)", true, 0, 7, v -> x -> x.setQuality(2, 3, v, 7)),
        new Argument("setQuality(2, 3, 5, v)", true, 0, 30, v -> x -> x.setQuality(2, 3, 5, v)),
    };

    private static final Argument[] QUESTIONS = {
        new Argument("scan(v)", false, 0, 4, v -> x -> x.scan(v)),
        new Argument("listening(v)", false, 0, 4, v -> x -> x.listening(v)),
        new Argument("link(v)", false, 0, 4, v -> x -> x.link(v)),
        new Argument("linkChannel(v)", false, 0, 4, v -> x -> x.linkChannel(v)),
        new Argument("quality(2, 3, v)", false, 0, 7, v -> x -> x.quality(2, 3, v)),
        new Argument("score(3, 2, v)", false, 0, 7, v -> x -> x.score(3, 2, v)),
        new Argument("effective(3, 2, v)", false, 0, 7, v -> x -> x.effective(3, 2, v)),
        new Argument("vote(v, 1, 2)", false, 0, TOP_WORD, v -> x -> x.vote(v, 1, 2)),
        new Argument("vote(1, v, 2)", false, 0, TOP_WORD, v -> x -> x.vote(1, v, 2)),
        new Argument("vote(1, 2, v)", false, 0, TOP_WORD, v -> x -> x.vote(1, 2, v)),
        new Argument("errorCount(v)", false, 0, 1, v -> x -> x.errorCount(v)),
    };

    private static final Argument SOUNDING_STATION = new Argument("sound(v, 7)", true, 0, 4, v -> x -> x.sound(v, 7));
    private static final Argument SOUNDED_CHANNEL = new Argument("sound(2, v)", true, 0, 7, v -> x -> x.sound(2, v));
    private static final Argument LEAVING_STATION = new Argument("hangUp(v)", true, 0, 4, v -> x -> x.hangUp(v));

    /** A method of two different stations, with its other arguments at allowed values. */
    private interface OfPair {
        int call(LinkEstablisher x, int station, int other);
    }

    /** A method of a caller and members. */
    private interface OfNet {
        int call(LinkEstablisher x, int caller, int members);
    }

    public static void main(String[] args) {
        singleArguments();
        pairs("setQuality(a, b, 7, 30)", true, (x, a, b) -> x.setQuality(a, b, 7, 30));
        pairs("call(a, b)", true, LinkEstablisher::call);
        pairs("quality(a, b, 0)", false, (x, a, b) -> x.quality(a, b, 0));
        pairs("score(a, b, 0)", false, (x, a, b) -> x.score(a, b, 0));
        pairs("effective(a, b, 0)", false, (x, a, b) -> x.effective(a, b, 0));
        pairs("bestChannel(a, b)", false, LinkEstablisher::bestChannel);
        nets("netCall(a, m)", true, LinkEstablisher::netCall);
        nets("netChannel(a, m)", false, LinkEstablisher::netChannel);
        everyNoiseStateAtTheEnds();
        Check.finish("RangesTest");
    }

    private static void singleArguments() {
        for (Argument argument : SETTINGS) {
            range(argument, LinkEstablisher::new);
            range(argument, Check::busy);
        }
        for (Argument argument : QUESTIONS) {
            range(argument, LinkEstablisher::new);
            range(argument, Check::busy);
        }
        range(SOUNDING_STATION, LinkEstablisher::new);
        range(SOUNDED_CHANNEL, LinkEstablisher::new);
        range(SOUNDED_CHANNEL, Check::busy);
        range(LEAVING_STATION, RangesTest::allLinked);
        Check.refusedOutside("hangUp without a link", LinkEstablisher::new, 0, 4, v -> x -> x.hangUp(v));
        Check.refusedOutside("sound(v, 0) with links", Check::busy, 0, 4, v -> x -> x.sound(v, 0));
    }

    /** One link of all five stations, and room on the undo stack. */
    private static LinkEstablisher allLinked() {
        LinkEstablisher x = Check.quiet();
        Check.due("netCall(0, 30)", x.netCall(0, 30), 30);
        x.undo();
        x.undo();
        Check.due("netCall(0, 30) again", x.netCall(0, 30), 30);
        return x;
    }

    private static void range(Argument argument, Supplier<LinkEstablisher> history) {
        int few = Math.min(argument.high - argument.low, 1000);
        for (int i = 0; i <= few; i++) {
            allowed(argument, argument.low + i, history);
            allowed(argument, argument.high - i, history);
        }
        Check.refusedOutside(argument.call, history, argument.low, argument.high, v -> argument.with.apply(v));
    }

    private static void allowed(Argument argument, int value, Supplier<LinkEstablisher> history) {
        accepted(argument.call + " with " + value, argument.undoable, history, argument.with.apply(value));
    }

    /** Such a call counts no error, and saves a state just if it is undoable. */
    private static void accepted(String what, boolean undoable, Supplier<LinkEstablisher> history,
            Function<LinkEstablisher, Integer> call) {
        LinkEstablisher x = history.get();
        LinkEstablisher untouched = history.get();
        int answer = call.apply(x);
        Check.holds(what + " is no error, but answered " + answer, answer >= LinkEstablisher.NONE);
        Check.due(what + " then errorCount(0)", x.errorCount(0), untouched.errorCount(0));
        Check.due(what + " then errorCount(1)", x.errorCount(1), untouched.errorCount(1));
        int saved = statesLeft(untouched);
        Check.due(what + ": states on the stack", statesLeft(x), undoable ? Math.min(saved + 1, 4) : saved);
    }

    private static int statesLeft(LinkEstablisher x) {
        int left = 0;
        while (left < 6 && x.undo() >= 0) {
            left++;
        }
        return left;
    }

    private static void pairs(String what, boolean undoable, OfPair method) {
        for (int station = -1; station <= 5; station++) {
            for (int other = -1; other <= 5; other++) {
                int a = station;
                int b = other;
                String call = what + " with (" + a + ", " + b + ")";
                if (a >= 0 && a <= 4 && b >= 0 && b <= 4 && a != b) {
                    accepted(call, undoable, LinkEstablisher::new, x -> method.call(x, a, b));
                } else {
                    Check.refused(call, LinkEstablisher::new, -2, x -> method.call(x, a, b));
                    Check.refused(call, Check::busy, -2, x -> method.call(x, a, b));
                }
            }
        }
        for (int extreme : Check.EXTREMES) {
            Check.refused(what + " of " + extreme, Check::busy, -2, x -> method.call(x, extreme, 2));
            Check.refused(what + " with " + extreme, Check::busy, -2, x -> method.call(x, 2, extreme));
            Check.refused(what + " twice " + extreme, Check::busy, -2, x -> method.call(x, extreme, extreme));
        }
    }

    private static void nets(String what, boolean undoable, OfNet method) {
        for (int caller = -1; caller <= 5; caller++) {
            for (int members = -1; members <= 33; members++) {
                int a = caller;
                int m = members;
                String call = what + " with (" + a + ", " + m + ")";
                if (a >= 0 && a <= 4 && m >= 1 && m <= 31 && m / (1 << a) % 2 == 0) {
                    accepted(call, undoable, LinkEstablisher::new, x -> method.call(x, a, m));
                } else {
                    Check.refused(call, LinkEstablisher::new, -2, x -> method.call(x, a, m));
                    Check.refused(call, Check::busy, -2, x -> method.call(x, a, m));
                }
            }
        }
        for (int extreme : Check.EXTREMES) {
            Check.refused(what + " of " + extreme, Check::busy, -2, x -> method.call(x, extreme, 8));
            Check.refused(what + " with " + extreme, Check::busy, -2, x -> method.call(x, 2, extreme));
        }
    }

    /** The state that is set is the state that is drawn from: 0 and 2147483647 are states like others. */
    private static void everyNoiseStateAtTheEnds() {
        for (int state : new int[] {0, 1, TOP - 1, TOP}) {
            LinkEstablisher x = new LinkEstablisher();
            Check.due("setNoise(" + state + ")", x.setNoise(state), 0);
            Check.due("digest() with the state " + state, x.digest(), Check.digestOf(x, 1, 10, state));
        }
    }
}
