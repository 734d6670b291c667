/** Promises 11 to 14: what is told of the latest call and the latest word. */
final class LatestCallTest {
    public static void main(String[] args) {
        promises11And12Calls();
        promises11And12FailedCallsDoNotCount();
        promises13And14NoWord();
        promises13And14Words();
        promises13And14Noise();
        Check.finish("LatestCallTest");
    }

    private static void calls(LinkEstablisher x, int attempts, int lastChannel) {
        Check.due("attempts()", x.attempts(), attempts);
        Check.due("lastChannel()", x.lastChannel(), lastChannel);
    }

    private static void words(LinkEstablisher x, int unanimous, int voted) {
        Check.due("lastUnanimous()", x.lastUnanimous(), unanimous);
        Check.due("lastVoted()", x.lastVoted(), voted);
    }

    private static void promises11And12Calls() {
        LinkEstablisher x = Check.quiet();
        calls(x, 0, -1);
        x.sound(0, 4);
        calls(x, 0, -1);
        x.setScan(1, 32);
        Check.due("call(0, 1)", x.call(0, 1), 5);
        calls(x, 6, 5);
        Check.due("netCall(2, 8)", x.netCall(2, 8), 8);
        calls(x, 1, 0);
        x.hangUp(0);
        x.sound(0, 7);
        calls(x, 1, 0);
        x.setScan(4, 128);
        x.setScan(0, 64);
        Check.due("call(4, 0)", x.call(4, 0), -1);
        calls(x, 1, 7);
        x.setScan(4, 7);
        Check.due("call(4, 0)", x.call(4, 0), -1);
        calls(x, 3, 2);
        Check.due("netCall(4, 1)", x.netCall(4, 1), 0);
        calls(x, 1, 0);
        x.undo();
        calls(x, 3, 2);
    }

    private static void promises11And12FailedCallsDoNotCount() {
        LinkEstablisher x = Check.quiet();
        Check.due("call(0, 0)", x.call(0, 0), -2);
        Check.due("netCall(0, 1)", x.netCall(0, 1), -2);
        calls(x, 0, -1);
        x.setScan(1, 4);
        Check.due("call(0, 1)", x.call(0, 1), 2);
        Check.due("call(0, 2)", x.call(0, 2), -3);
        Check.due("netCall(0, 4)", x.netCall(0, 4), -3);
        calls(x, 3, 2);
    }

    private static void promises13And14NoWord() {
        LinkEstablisher x = new LinkEstablisher();
        words(x, -1, -1);
        x.setScan(0, 1);
        x.setScan(1, 2);
        Check.due("call(0, 1)", x.call(0, 1), -1);
        words(x, -1, -1);
        Check.due("vote(7, 7, 7)", x.vote(7, 7, 7), 7);
        words(x, -1, -1);
    }

    private static void promises13And14Words() {
        LinkEstablisher x = Check.quiet();
        x.sound(4, 0);
        words(x, 24, 65536 * LinkEstablisher.SOUND + 256 * 255 + 4);
        x.call(1, 0);
        words(x, 24, 65536 * LinkEstablisher.ACKNOWLEDGE + 256 * 0 + 1);
        x.netCall(3, 16);
        words(x, 24, 65536 * LinkEstablisher.ACKNOWLEDGE + 256 * 255 + 3);
        x.hangUp(0);
        x.pass(3);
        words(x, 24, 65536 * LinkEstablisher.ACKNOWLEDGE + 256 * 255 + 3);
        x.undo();
        x.undo();
        x.undo();
        words(x, 24, 65536 * LinkEstablisher.ACKNOWLEDGE + 256 * 0 + 1);
    }

    /** With every quality a call and a net call end behind some word, and that word stays in sight. */
    private static void promises13And14Noise() {
        int[] callAddresses = {1, 0, 1};
        int[] netCallAddresses = {255, 0, 255};
        boolean[][] seen = new boolean[2][4];
        for (int i = 0; i < 31 * 20; i++) {
            LinkEstablisher x = noisy(i % 31, 1000 + i);
            x.call(0, 1);
            lastWordIsAsDue(x, callAddresses, i % 31, 1000 + i);
            seen[0][x.transmitted()] = true;
            LinkEstablisher y = noisy(i % 31, 1000 + i);
            y.netCall(0, 2);
            lastWordIsAsDue(y, netCallAddresses, i % 31, 1000 + i);
            seen[1][y.transmitted()] = true;
        }
        for (int words = 1; words <= 3; words++) {
            Check.holds("some call ended behind " + words + " words", seen[0][words]);
            Check.holds("some net call ended behind " + words + " words", seen[1][words]);
        }
    }

    private static LinkEstablisher noisy(int quality, int noise) {
        LinkEstablisher x = new LinkEstablisher();
        x.setScan(0, 1);
        x.setScan(1, 1);
        x.setQuality(0, 1, 0, quality);
        x.setNoise(noise);
        return x;
    }

    private static void lastWordIsAsDue(LinkEstablisher x, int[] addresses, int quality, int noise) {
        int sent = x.transmitted();
        int word = 65536 * (sent + 1) + 256 * addresses[sent - 1] + (sent == 2 ? 1 : 0);
        int[] copies = Check.copies(word, quality, Check.noiseAfter(noise, 72 * (sent - 1)));
        words(x, Check.unanimous(copies), Check.majority(copies));
        Check.due("digest(): the noise state", x.digest(),
            Check.digestOf(x, 4, 10, Check.noiseAfter(noise, 72 * sent)));
    }
}
