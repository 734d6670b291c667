import java.util.LinkedHashMap;
import java.util.Map;
import java.util.function.Function;
import java.util.function.Supplier;

/**
 * 'Errors' in the document: what refused calls answer, that INVALID comes before REJECTED, that a failed call changes
 * nothing but the counter of its error, which grows by 1, and that NONE is answered only if no error applies.
 */
final class RefusalsTest {
    public static void main(String[] args) {
        rejectedOfSound();
        rejectedOfCall();
        rejectedOfNetCall();
        rejectedOfHangUp();
        rejectedOfUndo();
        invalidComesBeforeRejected();
        severalWrongArgumentsCountOnce();
        invalidComesBeforeNone();
        answersNoneAndZeroAreNoErrors();
        countersGrowByOne();
        countersOutliveUndo();
        Check.finish("RefusalsTest");
    }

    /** Stations 0, 2 and 4 form a link on channel 0, and 1 and 3 another one; the undo stack is full. */
    private static LinkEstablisher twoLinks() {
        LinkEstablisher x = Check.quiet();
        Check.due("netCall(2, 17)", x.netCall(2, 17), 17);
        Check.due("call(3, 1)", x.call(3, 1), 0);
        return x;
    }

    private static void rejected(String what, Supplier<LinkEstablisher> history,
            Function<LinkEstablisher, Integer> call) {
        Check.refused(what, history, LinkEstablisher.REJECTED, call);
    }

    private static void rejectedOfSound() {
        for (int linked = 0; linked < 5; linked++) {
            int station = linked;
            rejected("sound of a linked station", RefusalsTest::twoLinks, x -> x.sound(station, 0));
            rejected("sound of a linked station", RefusalsTest::twoLinks, x -> x.sound(station, 7));
        }
        LinkEstablisher x = Check.linked();
        Check.holds("sound of a station that is not linked", x.sound(2, 0) >= 0);
        Check.due("sound(0, 0), linked", x.sound(0, 0), -3);
        x.hangUp(0);
        Check.holds("sound(0, 0), free again", x.sound(0, 0) >= 0);
        Check.holds("sound(1, 0), left alone in the link and so free, too", x.sound(1, 0) >= 0);
    }

    private static void rejectedOfCall() {
        for (int caller = 0; caller < 5; caller++) {
            for (int called = 0; called < 5; called++) {
                int a = caller;
                int b = called;
                if (a != b) {
                    rejected("call(" + a + ", " + b + ") in two links", RefusalsTest::twoLinks, x -> x.call(a, b));
                }
            }
        }
        for (int free = 2; free < 5; free++) {
            int station = free;
            rejected("call of a linked caller", Check::busy, x -> x.call(0, station));
            rejected("call of a linked caller", Check::busy, x -> x.call(1, station));
            rejected("call of a linked station", Check::busy, x -> x.call(station, 0));
            rejected("call of a linked station", Check::busy, x -> x.call(station, 1));
        }
        LinkEstablisher x = Check.linked();
        Check.due("call(2, 3), both free, while others are linked", x.call(2, 3), 0);
        Check.due("call(2, 3) again", x.call(2, 3), -3);
        x.hangUp(3);
        Check.due("call(3, 2), free again", x.call(3, 2), 0);
    }

    private static void rejectedOfNetCall() {
        for (int linked = 0; linked < 5; linked++) {
            int caller = linked;
            for (int members = 1; members <= 31; members++) {
                int set = members;
                int due = (set >> caller & 1) == 1 ? -2 : -3;
                Check.refused("netCall(" + caller + ", " + set + ") of a linked caller", RefusalsTest::twoLinks, due,
                    x -> x.netCall(caller, set));
            }
        }
        LinkEstablisher x = Check.linked();
        Check.due("linked members are no error", x.netCall(4, 3), 0);
        Check.due("nor are members of whom some are linked", x.netCall(4, 7), 4);
        Check.due("errorCount(1)", x.errorCount(1), 0);
    }

    private static void rejectedOfHangUp() {
        for (int station = 0; station < 5; station++) {
            int free = station;
            rejected("hangUp of a new object", LinkEstablisher::new, x -> x.hangUp(free));
        }
        for (int station = 2; station < 5; station++) {
            int free = station;
            rejected("hangUp beside a link", Check::busy, x -> x.hangUp(free));
        }
        LinkEstablisher x = Check.linked();
        Check.due("hangUp(0)", x.hangUp(0), 0);
        Check.due("hangUp(0) again", x.hangUp(0), -3);
        Check.due("hangUp(1), which left, too", x.hangUp(1), -3);
        Check.due("errorCount(1)", x.errorCount(1), 2);
    }

    /** A history whose undo stack has been emptied again. */
    private static LinkEstablisher undoneAll() {
        LinkEstablisher x = Check.busy();
        for (int left = 3; left >= 0; left--) {
            Check.due("undo()", x.undo(), left);
        }
        return x;
    }

    private static void rejectedOfUndo() {
        rejected("undo of a new object", LinkEstablisher::new, LinkEstablisher::undo);
        rejected("undo behind four of them", RefusalsTest::undoneAll, LinkEstablisher::undo);
    }

    private static void invalidComesBeforeRejected() {
        Map<String, Function<LinkEstablisher, Integer>> calls = new LinkedHashMap<>();
        calls.put("sound(0, 8)", x -> x.sound(0, 8));
        calls.put("sound(1, -1)", x -> x.sound(1, -1));
        calls.put("call(0, 0)", x -> x.call(0, 0));
        calls.put("call(1, 1)", x -> x.call(1, 1));
        calls.put("call(0, 5)", x -> x.call(0, 5));
        calls.put("call(0, -1)", x -> x.call(0, -1));
        calls.put("call(5, 0)", x -> x.call(5, 0));
        calls.put("call(-1, 1)", x -> x.call(-1, 1));
        calls.put("netCall(0, 0)", x -> x.netCall(0, 0));
        calls.put("netCall(0, 1)", x -> x.netCall(0, 1));
        calls.put("netCall(1, 2)", x -> x.netCall(1, 2));
        calls.put("netCall(0, 31)", x -> x.netCall(0, 31));
        calls.put("netCall(0, 32)", x -> x.netCall(0, 32));
        calls.put("netCall(1, -1)", x -> x.netCall(1, -1));
        calls.put("netCall(1, -3)", x -> x.netCall(1, -3));
        for (String call : calls.keySet()) {
            Check.refused(call + " of a linked station", Check::busy, LinkEstablisher.INVALID, calls.get(call));
            Check.refused(call + " in two links", RefusalsTest::twoLinks, LinkEstablisher.INVALID, calls.get(call));
        }
        Check.refused("hangUp(5) beside a link", Check::busy, LinkEstablisher.INVALID, x -> x.hangUp(5));
        Check.refused("hangUp(-1) without links", LinkEstablisher::new, LinkEstablisher.INVALID, x -> x.hangUp(-1));
    }

    private static void severalWrongArgumentsCountOnce() {
        Map<String, Function<LinkEstablisher, Integer>> calls = new LinkedHashMap<>();
        calls.put("setScan(5, 256)", x -> x.setScan(5, 256));
        calls.put("setQuality(-1, 5, 8, 31)", x -> x.setQuality(-1, 5, 8, 31));
        calls.put("setQuality(5, 5, -1, -1)", x -> x.setQuality(5, 5, -1, -1));
        calls.put("sound(5, 8)", x -> x.sound(5, 8));
        calls.put("call(5, 5)", x -> x.call(5, 5));
        calls.put("netCall(-1, 32)", x -> x.netCall(-1, 32));
        calls.put("netCall(5, 32), which would contain the caller", x -> x.netCall(5, 32));
        calls.put("quality(5, -1, 8)", x -> x.quality(5, -1, 8));
        calls.put("score(-1, -1, -1)", x -> x.score(-1, -1, -1));
        calls.put("effective(5, 5, 8)", x -> x.effective(5, 5, 8));
        calls.put("bestChannel(-1, 5)", x -> x.bestChannel(-1, 5));
        calls.put("netChannel(5, 0)", x -> x.netChannel(5, 0));
        calls.put("vote(-1, -1, 16777216)", x -> x.vote(-1, -1, 16777216));
        for (String call : calls.keySet()) {
            Check.refused(call, LinkEstablisher::new, LinkEstablisher.INVALID, calls.get(call));
            Check.refused(call, Check::busy, LinkEstablisher.INVALID, calls.get(call));
        }
    }

    /** Where the right call would answer NONE, the wrong one answers INVALID. */
    private static void invalidComesBeforeNone() {
        LinkEstablisher x = Check.linked();
        Check.due("listening(0), linked", x.listening(0), -1);
        Check.due("listening(5)", x.listening(5), -2);
        Check.due("linkChannel(2), not linked", x.linkChannel(2), -1);
        Check.due("linkChannel(-1)", x.linkChannel(-1), -2);
        Check.due("score(2, 3, 7), none", x.score(2, 3, 7), -1);
        Check.due("score(2, 3, 8)", x.score(2, 3, 8), -2);
        Check.due("score(2, 2, 7)", x.score(2, 2, 7), -2);
        Check.due("effective(2, 3, 7), none", x.effective(2, 3, 7), -1);
        Check.due("effective(2, 3, 8)", x.effective(2, 3, 8), -2);
        Check.due("effective(2, 2, 7)", x.effective(2, 2, 7), -2);
        x.setScan(2, 1);
        x.setScan(3, 2);
        Check.due("call(2, 3), no common channel", x.call(2, 3), -1);
        Check.due("call(2, 5)", x.call(2, 5), -2);
        Check.due("call(2, 1), linked", x.call(2, 1), -3);
        Check.due("errorCount(0)", x.errorCount(0), 7);
        Check.due("errorCount(1)", x.errorCount(1), 1);
    }

    private static void answersNoneAndZeroAreNoErrors() {
        LinkEstablisher x = new LinkEstablisher();
        Check.due("lastChannel()", x.lastChannel(), -1);
        Check.due("lastUnanimous()", x.lastUnanimous(), -1);
        Check.due("lastVoted()", x.lastVoted(), -1);
        Check.due("linkChannel(0)", x.linkChannel(0), -1);
        Check.due("link(0)", x.link(0), 0);
        Check.due("score(0, 1, 0)", x.score(0, 1, 0), -1);
        Check.due("effective(0, 1, 0)", x.effective(0, 1, 0), -1);
        x.setScan(0, 1);
        for (int station = 1; station < 5; station++) {
            x.setScan(station, 2);
        }
        Check.due("sound(0, 0), heard by none", x.sound(0, 0), 0);
        Check.due("call(0, 1), no common channel", x.call(0, 1), -1);
        Check.due("netCall(0, 30), no common channel", x.netCall(0, 30), 0);
        Check.due("errorCount(0)", x.errorCount(0), 0);
        Check.due("errorCount(1)", x.errorCount(1), 0);
    }

    private static void countersGrowByOne() {
        LinkEstablisher x = new LinkEstablisher();
        for (int i = 1; i <= 100; i++) {
            Check.due("hangUp(0)", x.hangUp(0), -3);
            Check.due("undo()", x.undo(), -3);
            Check.due("errorCount(1)", x.errorCount(1), 2 * i);
            Check.due("errorCount(0)", x.errorCount(0), i - 1);
            Check.due("errorCount(2), which is counted, too", x.errorCount(2), -2);
        }
        Check.due("asking for a counter that there is counts nothing", x.errorCount(0), 100);
        Check.due("nor does it again", x.errorCount(0), 100);
        Check.due("errorCount(1)", x.errorCount(1), 200);
    }

    private static void countersOutliveUndo() {
        LinkEstablisher x = new LinkEstablisher();
        for (int i = 0; i < 4; i++) {
            x.pass(1);
            x.pass(0);
            x.hangUp(0);
        }
        for (int left = 3; left >= 0; left--) {
            Check.due("undo()", x.undo(), left);
            Check.due("errorCount(0)", x.errorCount(0), 4);
            Check.due("errorCount(1)", x.errorCount(1), 4);
        }
        Check.due("undo() of nothing", x.undo(), -3);
        Check.due("errorCount(0)", x.errorCount(0), 4);
        Check.due("errorCount(1)", x.errorCount(1), 5);
    }
}
