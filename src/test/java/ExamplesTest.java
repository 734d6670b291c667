/** The four examples of the document. */
final class ExamplesTest {
    public static void main(String[] args) {
        soundingAndCall();
        noCommonChannel();
        scanning();
        majoritiesAndErrors();
        Check.finish("ExamplesTest");
    }

    private static void soundingAndCall() {
        LinkEstablisher x = new LinkEstablisher();
        Check.due("example 1: setQuality(0, 1, 3, 30)", x.setQuality(0, 1, 3, 30), 15);
        Check.due("example 1: sound(0, 3)", x.sound(0, 3), 2);
        Check.due("example 1: score(1, 0, 3)", x.score(1, 0, 3), 30);
        Check.due("example 1: time()", x.time(), 8);
        Check.due("example 1: bestChannel(1, 0)", x.bestChannel(1, 0), 3);
        Check.due("example 1: call(1, 0)", x.call(1, 0), 3);
        Check.due("example 1: linkChannel(0)", x.linkChannel(0), 3);
        Check.due("example 1: time()", x.time(), 18);
    }

    private static void noCommonChannel() {
        LinkEstablisher x = new LinkEstablisher();
        Check.due("example 2: setScan(0, 1)", x.setScan(0, 1), 255);
        Check.due("example 2: setScan(1, 2)", x.setScan(1, 2), 255);
        Check.due("example 2: call(0, 1)", x.call(0, 1), -1);
        Check.due("example 2: attempts()", x.attempts(), 1);
        Check.due("example 2: time()", x.time(), 1);
        Check.due("example 2: transmitted()", x.transmitted(), 0);
    }

    private static void scanning() {
        LinkEstablisher x = new LinkEstablisher();
        Check.due("example 3: listening(0)", x.listening(0), 0);
        Check.due("example 3: pass(9)", x.pass(9), 9);
        Check.due("example 3: listening(0)", x.listening(0), 1);
        Check.due("example 3: setScan(0, 6)", x.setScan(0, 6), 255);
        Check.due("example 3: listening(0)", x.listening(0), 2);
        Check.due("example 3: scan(0)", x.scan(0), 6);
    }

    private static void majoritiesAndErrors() {
        LinkEstablisher x = new LinkEstablisher();
        Check.due("example 4: vote(12, 10, 6)", x.vote(12, 10, 6), 14);
        Check.due("example 4: vote(5, 5, 0)", x.vote(5, 5, 0), 5);
        Check.due("example 4: call(0, 0)", x.call(0, 0), -2);
        Check.due("example 4: errorCount(0)", x.errorCount(0), 1);
        Check.due("example 4: hangUp(0)", x.hangUp(0), -3);
        Check.due("example 4: errorCount(1)", x.errorCount(1), 1);
    }
}
