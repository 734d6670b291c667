import com.sun.management.ThreadMXBean;
import java.lang.management.ManagementFactory;
import java.util.Random;

/** No call throws or fails to end, for any arguments, not even far behind the 512th call; and none makes objects. */
final class EnduranceTest {
    private static final int[] ARGUMENTS = {Integer.MIN_VALUE, -2147483647, -65536, -256, -9, -2, -1, 0, 1, 2, 3, 4, 5,
        6, 7, 8, 9, 15, 16, 30, 31, 32, 33, 99, 100, 255, 256, 1000, 1001, 16777215, 16777216, 1 << 30,
        Integer.MAX_VALUE};

    private final Random random = new Random(4711);
    private final LinkEstablisher x = new LinkEstablisher();
    private long answers = 0;

    public static void main(String[] args) {
        EnduranceTest wild = new EnduranceTest();
        wild.callWildly(400000);
        wild.letTimeRunOver();
        wild.callWildly(400000);
        Check.holds("every wild call came back", wild.answers != 0);
        noCallMakesObjects();
        Check.finish("EnduranceTest");
    }

    private void callWildly(int calls) {
        for (int i = 0; i < calls; i++) {
            answers = 31 * answers + answer(random.nextInt(29));
        }
    }

    private void letTimeRunOver() {
        long slots = 0;
        while (slots < 4000000000L) {
            x.pass(1000);
            slots += 1000;
            if (slots % 1000000 == 0) {
                callWildly(5);
            }
        }
    }

    private int any() {
        return random.nextInt(3) == 0 ? ARGUMENTS[random.nextInt(ARGUMENTS.length)] : random.nextInt(9);
    }

    private long answer(int method) {
        switch (method) {
            case 0: return x.setScan(any(), any());
            case 1: return x.setQuality(any(), any(), any(), any());
            case 2: return x.setAgeing(any());
            case 3: return x.setNoise(any());
            case 4: return x.pass(any());
            case 5: return x.sound(any(), any());
            case 6: return x.call(any(), any());
            case 7: return x.netCall(any(), any());
            case 8: return x.hangUp(any());
            case 9: return x.attempts();
            case 10: return x.lastChannel();
            case 11: return x.lastUnanimous();
            case 12: return x.lastVoted();
            case 13: return x.scan(any());
            case 14: return x.listening(any());
            case 15: return x.quality(any(), any(), any());
            case 16: return x.score(any(), any(), any());
            case 17: return x.effective(any(), any(), any());
            case 18: return x.bestChannel(any(), any());
            case 19: return x.netChannel(any(), any());
            case 20: return x.link(any());
            case 21: return x.linkChannel(any());
            case 22: return x.time();
            case 23: return x.transmitted();
            case 24: return x.decoded();
            case 25: return x.vote(any(), any(), any());
            case 26: return x.undo();
            case 27: return x.errorCount(any());
            default: return x.digest();
        }
    }

    private static void noCallMakesObjects() {
        ThreadMXBean threads = (ThreadMXBean) ManagementFactory.getThreadMXBean();
        long self = Thread.currentThread().getId();
        EnduranceTest run = new EnduranceTest();
        run.callWildly(1000);
        long before = threads.getThreadAllocatedBytes(self);
        run.callWildly(20000);
        long made = threads.getThreadAllocatedBytes(self) - before;
        Check.holds("20000 calls make next to nothing, but made bytes: " + made, made < 20000);
    }
}
