import java.util.ArrayList;
import java.util.List;
import java.util.function.Function;

/** 'Undo' in the document: an empty stack, a full one, the older states that are dropped, and what is saved at all. */
final class UndoEdgesTest {
    private record Undoable(String name, int due, Function<LinkEstablisher, Integer> call) {
    }

    /** Each is a success behind start(), whether it changes something or not. */
    private static final Undoable[] UNDOABLE = {
        new Undoable("setScan(2, 9)", 255, x -> x.setScan(2, 9)),
        new Undoable("setScan(2, 255), which changes nothing", 255, x -> x.setScan(2, 255)),
        new Undoable("setQuality(1, 2, 3, 0)", 15, x -> x.setQuality(1, 2, 3, 0)),
        new Undoable("setQuality(1, 2, 3, 15), which changes nothing", 15, x -> x.setQuality(1, 2, 3, 15)),
        new Undoable("setAgeing(99)", 10, x -> x.setAgeing(99)),
        new Undoable("setAgeing(10), which changes nothing", 10, x -> x.setAgeing(10)),
        new Undoable("setNoise(0)", 10, x -> x.setNoise(0)),
        new Undoable("pass(1000)", 1010, x -> x.pass(1000)),
        new Undoable("sound(2, 0), decoded by 3", 8, x -> x.sound(2, 0)),
        new Undoable("sound(4, 7), lost", 0, x -> x.sound(4, 7)),
        new Undoable("call(2, 3), linked", 0, x -> x.call(2, 3)),
        new Undoable("call(4, 3), in vain", -1, x -> x.call(4, 3)),
        new Undoable("netCall(2, 8), linked", 8, x -> x.netCall(2, 8)),
        new Undoable("netCall(4, 8), in vain", 0, x -> x.netCall(4, 8)),
        new Undoable("netCall(4, 3), of linked members alone", 0, x -> x.netCall(4, 3)),
        new Undoable("hangUp(0)", 0, x -> x.hangUp(0)),
    };

    public static void main(String[] args) {
        emptyStack();
        everyUndoableCallIsSaved();
        fullStackKeepsTheLatestFour();
        undoIsNotUndoable();
        longRunOfSavingAndUndoing();
        failedCallsLeaveTheFullStack();
        questionsLeaveTheStack();
        qualitiesOfDroppedAndKeptStates();
        noiseAndMeasurementsAreSaved();
        Check.finish("UndoEdgesTest");
    }

    /**
     * 0 and 1 are linked; 2 and 3 hear each other without noise on channel 0; 3 hears nothing of 4, nor does 2 on 0
     * and 7. One state is on the stack, the one from before the link.
     */
    private static LinkEstablisher start() {
        LinkEstablisher x = new LinkEstablisher();
        x.setQuality(0, 1, 0, 30);
        x.setQuality(2, 3, 0, 30);
        x.setQuality(2, 4, 0, 0);
        x.setQuality(2, 4, 7, 0);
        for (int channel = 0; channel < 8; channel++) {
            x.setQuality(4, 3, channel, 0);
        }
        emptyTheStack(x);
        Check.due("start(): call(0, 1)", x.call(0, 1), 0);
        return x;
    }

    /** Older states are dropped for four calls, which are undone then. */
    private static void emptyTheStack(LinkEstablisher x) {
        for (int i = 0; i < 4; i++) {
            x.pass(1);
        }
        for (int left = 3; left >= 0; left--) {
            Check.due("undo() of pass", x.undo(), left);
        }
    }

    private static void emptyStack() {
        LinkEstablisher x = new LinkEstablisher();
        long state = Check.state(x, 0);
        Check.due("undo() of a new object", x.undo(), -3);
        Check.due("errorCount(1)", x.errorCount(1), 1);
        Check.due("the state stays", Check.state(x, 0), state);
        x.pass(1);
        Check.due("undo() of one state", x.undo(), 0);
        Check.due("the state before it", Check.state(x, 0), state);
        Check.due("undo() behind it", x.undo(), -3);
        Check.due("undo() once more", x.undo(), -3);
        Check.due("errorCount(1)", x.errorCount(1), 3);
        Check.due("the state stays", Check.state(x, 0), state);
        x.pass(2);
        Check.due("an emptied stack is filled again", x.undo(), 0);
        Check.due("time()", x.time(), 0);
    }

    private static void everyUndoableCallIsSaved() {
        for (Undoable undoable : UNDOABLE) {
            String name = undoable.name;
            LinkEstablisher x = start();
            long before = Check.state(x, 1);
            Check.due(name, undoable.call.apply(x), undoable.due);
            Check.due(name + " then undo()", x.undo(), 1);
            Check.due(name + " then undo(): the state before", Check.state(x, 1), before);
            Check.due(name + " then undo() of the call before", x.undo(), 0);
            Check.due(name + " then undo() of nothing", x.undo(), -3);
        }
    }

    /** Before the call there are 1 to 4 states on the stack: of a fifth one the oldest is dropped. */
    private static void fullStackKeepsTheLatestFour() {
        for (Undoable undoable : UNDOABLE) {
            for (int passes = 0; passes <= 6; passes++) {
                LinkEstablisher x = start();
                List<Long> states = new ArrayList<>();
                for (int i = 0; i < passes; i++) {
                    states.add(Check.state(x, Math.min(1 + i, 4)));
                    x.pass(i + 1);
                }
                states.add(Check.state(x, Math.min(1 + passes, 4)));
                undoable.call.apply(x);
                backThrough(x, undoable.name + " behind " + passes + " calls", states);
            }
        }
    }

    /** The states since start(), of which the stack holds the latest four; below them it holds the one of start(). */
    private static void backThrough(LinkEstablisher x, String what, List<Long> states) {
        int saved = Math.min(1 + states.size(), 4);
        for (int left = saved - 1; left >= 0; left--) {
            Check.due(what + ", undo()", x.undo(), left);
            if (!states.isEmpty()) {
                Check.due(what + ", the state before", Check.state(x, left), states.remove(states.size() - 1));
            } else {
                Check.due(what + ", link(0) before the link", x.link(0), 0);
            }
        }
        Check.due(what + ", undo() of an empty stack", x.undo(), -3);
    }

    private static void undoIsNotUndoable() {
        LinkEstablisher x = new LinkEstablisher();
        x.pass(1);
        x.pass(10);
        x.pass(100);
        Check.due("undo()", x.undo(), 2);
        Check.due("time()", x.time(), 11);
        x.setAgeing(20);
        Check.due("undo() of what came behind an undo()", x.undo(), 2);
        Check.due("undo() goes on down the stack", x.undo(), 1);
        Check.due("time()", x.time(), 1);
        Check.due("undo()", x.undo(), 0);
        Check.due("time()", x.time(), 0);
        Check.due("undo()", x.undo(), -3);
    }

    /** Up and down, so that full and empty stacks come about at every place where states may be held. */
    private static void longRunOfSavingAndUndoing() {
        LinkEstablisher x = new LinkEstablisher();
        List<Integer> stack = new ArrayList<>();
        int time = 0;
        int dropped = 0;
        int refused = 0;
        for (int i = 0; i < 250; i++) {
            if (i * i % 31 < (i / 25 % 2 == 0 ? 20 : 8)) {
                stack.add(time);
                time += 1 + i;
                Check.due("step " + i + ": pass", x.pass(1 + i), time);
                if (stack.size() > 4) {
                    stack.remove(0);
                    dropped++;
                }
            } else if (stack.isEmpty()) {
                refused++;
                Check.due("step " + i + ": undo() of nothing", x.undo(), -3);
            } else {
                time = stack.remove(stack.size() - 1);
                Check.due("step " + i + ": undo()", x.undo(), stack.size());
            }
            Check.due("step " + i + ": time()", x.time(), time);
        }
        Check.holds("the run dropped states and ran the stack empty", dropped > 20 && refused > 10);
    }

    private static void failedCallsLeaveTheFullStack() {
        LinkEstablisher x = start();
        for (int i = 0; i < 4; i++) {
            x.pass(1);
        }
        int end = x.time();
        x.setScan(0, 0);
        x.setQuality(0, 1, 0, 31);
        x.setAgeing(100);
        x.setNoise(-1);
        x.pass(1001);
        x.sound(0, 0);
        x.sound(2, 8);
        x.call(0, 2);
        x.call(2, 2);
        x.netCall(0, 4);
        x.netCall(2, 4);
        x.hangUp(2);
        x.hangUp(5);
        Check.due("errorCount(0)", x.errorCount(0), 9);
        for (int left = 3; left >= 0; left--) {
            Check.due("undo()", x.undo(), left);
            Check.due("time()", x.time(), end - 4 + left);
        }
        Check.due("undo() of nothing", x.undo(), -3);
    }

    private static void questionsLeaveTheStack() {
        LinkEstablisher x = start();
        x.attempts();
        x.lastChannel();
        x.lastUnanimous();
        x.lastVoted();
        x.scan(0);
        x.listening(0);
        x.quality(0, 1, 0);
        x.score(0, 1, 0);
        x.effective(0, 1, 0);
        x.bestChannel(0, 1);
        x.netChannel(0, 2);
        x.link(0);
        x.linkChannel(0);
        x.time();
        x.transmitted();
        x.decoded();
        x.vote(1, 2, 3);
        x.errorCount(0);
        x.digest();
        Check.due("undo() of the call before the questions", x.undo(), 0);
        Check.due("link(0)", x.link(0), 0);
    }

    /** The digest does not tell qualities. */
    private static void qualitiesOfDroppedAndKeptStates() {
        LinkEstablisher x = new LinkEstablisher();
        for (int quality = 0; quality <= 6; quality++) {
            x.setQuality(4, 3, 7, quality);
        }
        for (int quality = 5; quality >= 2; quality--) {
            Check.due("undo()", x.undo(), quality - 2);
            Check.due("quality(4, 3, 7)", x.quality(4, 3, 7), quality);
            Check.due("quality(3, 4, 7)", x.quality(3, 4, 7), quality);
            Check.due("quality(4, 3, 6)", x.quality(4, 3, 6), 15);
        }
        Check.due("undo() of nothing", x.undo(), -3);
        Check.due("quality(4, 3, 7)", x.quality(4, 3, 7), 2);
    }

    /** What is undone and done again ends in the same state, since the noise starts from the same one. */
    private static void noiseAndMeasurementsAreSaved() {
        for (int quality = 15; quality <= 30; quality++) {
            for (Undoable undoable : UNDOABLE) {
                String name = undoable.name + " with the quality " + quality;
                LinkEstablisher x = start();
                x.setQuality(2, 3, 0, quality);
                long before = Check.state(x, 2);
                int answer = undoable.call.apply(x);
                long behind = Check.state(x, 3);
                Check.due(name + " then undo()", x.undo(), 2);
                Check.due(name + " then undo(): the state before", Check.state(x, 2), before);
                Check.due(name + " again", undoable.call.apply(x), answer);
                Check.due(name + " again: the state behind", Check.state(x, 3), behind);
            }
        }
    }
}
