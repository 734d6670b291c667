import java.util.ArrayList;
import java.util.List;
import java.util.function.Consumer;

/** Promises 28 to 30: undo, the error counters and the digest. */
final class UndoAndErrorsTest {
    public static void main(String[] args) {
        promise28UndoStack();
        promise28WhatIsUndoable();
        promise28WhatIsRestored();
        promise28ErrorCountersStay();
        promise29ErrorCount();
        promise30Digest();
        Check.finish("UndoAndErrorsTest");
    }

    private static void promise28UndoStack() {
        LinkEstablisher x = new LinkEstablisher();
        Check.due("undo() of nothing", x.undo(), -3);
        Check.due("errorCount(1)", x.errorCount(1), 1);
        for (int i = 1; i <= 9; i++) {
            x.pass(1);
            Check.due("digest(): states on the stack", x.digest(), Check.digestOf(x, Math.min(i, 4), 10, 1));
        }
        for (int left = 3; left >= 0; left--) {
            Check.due("undo()", x.undo(), left);
            Check.due("time()", x.time(), 5 + left);
        }
        Check.due("undo() behind the fourth", x.undo(), -3);
        Check.due("time()", x.time(), 5);
        x.pass(10);
        x.pass(10);
        Check.due("undo()", x.undo(), 1);
        x.pass(100);
        Check.due("time()", x.time(), 115);
        Check.due("undo()", x.undo(), 1);
        Check.due("undo()", x.undo(), 0);
        Check.due("time()", x.time(), 5);
    }

    private static void promise28WhatIsUndoable() {
        List<Consumer<LinkEstablisher>> saved = new ArrayList<>();
        saved.add(x -> x.setScan(0, 255));
        saved.add(x -> x.setQuality(0, 1, 0, 15));
        saved.add(x -> x.setAgeing(10));
        saved.add(x -> x.setNoise(1));
        saved.add(x -> x.pass(1));
        saved.add(x -> x.sound(0, 0));
        saved.add(x -> x.call(0, 1));
        saved.add(x -> x.netCall(0, 2));
        for (int i = 0; i < saved.size(); i++) {
            LinkEstablisher x = new LinkEstablisher();
            long before = x.digest();
            saved.get(i).accept(x);
            Check.due("undo() of undoable call " + i, x.undo(), 0);
            Check.due("digest() behind it", x.digest(), before);
        }

        LinkEstablisher linked = new LinkEstablisher();
        linked.setQuality(0, 1, 0, 30);
        linked.setScan(0, 1);
        Check.due("call(0, 1)", linked.call(0, 1), 0);
        long before = linked.digest();
        Check.due("hangUp(0)", linked.hangUp(0), 0);
        Check.due("undo() of hangUp", linked.undo(), 3);
        Check.due("digest() behind it", linked.digest(), before);

        LinkEstablisher y = new LinkEstablisher();
        y.attempts();
        y.lastChannel();
        y.lastUnanimous();
        y.lastVoted();
        y.scan(0);
        y.listening(0);
        y.quality(0, 1, 0);
        y.score(0, 1, 0);
        y.effective(0, 1, 0);
        y.bestChannel(0, 1);
        y.netChannel(0, 2);
        y.link(0);
        y.linkChannel(0);
        y.time();
        y.transmitted();
        y.decoded();
        y.vote(1, 2, 3);
        y.errorCount(0);
        y.digest();
        Check.due("undo() behind calls that ask", y.undo(), -3);
    }

    private static void promise28WhatIsRestored() {
        LinkEstablisher x = Check.quiet();
        x.setScan(2, 85);
        x.setAgeing(3);
        x.setNoise(99);
        x.sound(3, 4);
        x.call(0, 1);
        x.pass(1);
        Check.due("undo() of pass", x.undo(), 3);
        long digest = x.digest();
        List<Consumer<LinkEstablisher>> changes = new ArrayList<>();
        changes.add(y -> y.setScan(2, 1));
        changes.add(y -> y.setQuality(0, 1, 3, 1));
        changes.add(y -> y.setAgeing(50));
        changes.add(y -> y.setNoise(5));
        changes.add(y -> y.pass(5));
        changes.add(y -> y.sound(2, 0));
        changes.add(y -> y.call(2, 4));
        changes.add(y -> y.netCall(2, 24));
        changes.add(y -> y.hangUp(0));
        for (int i = 0; i < changes.size(); i++) {
            changes.get(i).accept(x);
            Check.holds("change " + i + " changes the digest", x.digest() != digest);
            Check.due("undo() of change " + i, x.undo(), 3);
            Check.due("digest() behind undo() of change " + i, x.digest(), digest);
            Check.due("quality(0, 1, 3) behind undo() of change " + i, x.quality(0, 1, 3), 30);
            Check.due("quality(1, 0, 3) behind undo() of change " + i, x.quality(1, 0, 3), 30);
        }
        timesOfMeasurementAreRestored();
    }

    private static void timesOfMeasurementAreRestored() {
        LinkEstablisher x = Check.quiet();
        x.setAgeing(1);
        x.sound(0, 0);
        x.pass(12);
        x.sound(0, 0);
        Check.due("effective(1, 0, 0)", x.effective(1, 0, 0), 30);
        x.undo();
        Check.due("effective(1, 0, 0) after undo()", x.effective(1, 0, 0), 18);
        x.pass(1);
        Check.due("effective(1, 0, 0) a slot later", x.effective(1, 0, 0), 17);
    }

    private static void promise28ErrorCountersStay() {
        LinkEstablisher x = new LinkEstablisher();
        x.pass(1);
        x.pass(0);
        x.hangUp(0);
        x.hangUp(0);
        Check.due("undo()", x.undo(), 0);
        Check.due("errorCount(0)", x.errorCount(0), 1);
        Check.due("errorCount(1)", x.errorCount(1), 2);
        Check.due("undo()", x.undo(), -3);
        Check.due("errorCount(1)", x.errorCount(1), 3);
    }

    private static void promise29ErrorCount() {
        LinkEstablisher x = new LinkEstablisher();
        Check.due("errorCount(0)", x.errorCount(0), 0);
        Check.due("errorCount(1)", x.errorCount(1), 0);
        Check.due("errorCount(2)", x.errorCount(2), -2);
        Check.due("errorCount(-1)", x.errorCount(-1), -2);
        Check.due("errorCount(0)", x.errorCount(0), 2);
        for (int value : Check.EXTREMES) {
            Check.due("errorCount(" + value + ")", x.errorCount(value), -2);
        }
        Check.due("errorCount(0)", x.errorCount(0), 6);
        Check.due("hangUp(1)", x.hangUp(1), -3);
        Check.due("errorCount(1)", x.errorCount(1), 1);
        Check.due("errorCount(0)", x.errorCount(0), 6);
        Check.due("a call without success is no error", x.call(0, 1), -1);
        Check.due("an answer NONE is no error", x.score(0, 1, 0), -1);
        Check.due("errorCount(0)", x.errorCount(0), 6);
        Check.due("errorCount(1)", x.errorCount(1), 1);
    }

    private static void promise30Digest() {
        LinkEstablisher x = new LinkEstablisher();
        Check.due("digest()", x.digest(), Check.digestOf(x, 0, 10, 1));
        x.errorCount(7);
        Check.due("digest() with errorCount(0)", x.digest(), Check.digestOf(x, 0, 10, 1));
        x.hangUp(0);
        Check.due("digest() with errorCount(1)", x.digest(), Check.digestOf(x, 0, 10, 1));
        x.setAgeing(33);
        Check.due("digest() with the ageing", x.digest(), Check.digestOf(x, 1, 33, 1));
        x.setNoise(123456);
        Check.due("digest() with the noise state", x.digest(), Check.digestOf(x, 2, 33, 123456));
        x.setScan(3, 77);
        Check.due("digest() with a scan set", x.digest(), Check.digestOf(x, 3, 33, 123456));
        x.setQuality(0, 1, 0, 30);
        Check.due("digest() with a quality", x.digest(), Check.digestOf(x, 4, 33, 123456));
        x.setScan(1, 1);
        x.setScan(0, 1);
        Check.due("call(0, 1)", x.call(0, 1), 0);
        int noise = Check.noiseAfter(123456, 3 * 72);
        Check.due("digest() with a link and scores", x.digest(), Check.digestOf(x, 4, 33, noise));
        x.pass(100);
        Check.due("digest() with aged scores", x.digest(), Check.digestOf(x, 4, 33, noise));
        Check.due("asking for the digest changes nothing", x.digest(), x.digest());
    }
}
