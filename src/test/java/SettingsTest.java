/** Promises 1 to 6: a new object and the settings. */
final class SettingsTest {
    public static void main(String[] args) {
        promise1NewObject();
        promise2SetScan();
        promise3SetQuality();
        promise4SetAgeing();
        promise5SetNoise();
        promise6Pass();
        Check.finish("SettingsTest");
    }

    private static void promise1NewObject() {
        LinkEstablisher x = new LinkEstablisher();
        Check.due("new: time()", x.time(), 0);
        Check.due("new: attempts()", x.attempts(), 0);
        Check.due("new: lastChannel()", x.lastChannel(), -1);
        Check.due("new: lastUnanimous()", x.lastUnanimous(), -1);
        Check.due("new: lastVoted()", x.lastVoted(), -1);
        Check.due("new: transmitted()", x.transmitted(), 0);
        Check.due("new: decoded()", x.decoded(), 0);
        Check.due("new: errorCount(0)", x.errorCount(0), 0);
        Check.due("new: errorCount(1)", x.errorCount(1), 0);
        for (int a = 0; a < 5; a++) {
            Check.due("new: scan(" + a + ")", x.scan(a), 255);
            Check.due("new: listening(" + a + ")", x.listening(a), 0);
            Check.due("new: link(" + a + ")", x.link(a), 0);
            Check.due("new: linkChannel(" + a + ")", x.linkChannel(a), -1);
            for (int b = 0; b < 5; b++) {
                for (int c = 0; c < 8 && a != b; c++) {
                    String cell = "(" + a + ", " + b + ", " + c + ")";
                    Check.due("new: quality" + cell, x.quality(a, b, c), 15);
                    Check.due("new: score" + cell, x.score(a, b, c), -1);
                    Check.due("new: effective" + cell, x.effective(a, b, c), -1);
                }
            }
        }
        Check.due("new: digest()", x.digest(), Check.digestOf(x, 0, 10, 1));
        Check.due("new: undo()", x.undo(), -3);

        LinkEstablisher other = new LinkEstablisher();
        x.pass(5);
        x.setScan(0, 1);
        Check.due("a second object has a time of its own", other.time(), 0);
        Check.due("a second object has scan sets of its own", other.scan(0), 255);
    }

    private static void promise2SetScan() {
        LinkEstablisher x = new LinkEstablisher();
        Check.due("setScan(0, 1)", x.setScan(0, 1), 255);
        Check.due("setScan(4, 255)", x.setScan(4, 255), 255);
        Check.due("setScan(4, 128)", x.setScan(4, 128), 255);
        Check.due("setScan(4, 3)", x.setScan(4, 3), 128);
        Check.due("scan(0)", x.scan(0), 1);
        Check.due("scan(1)", x.scan(1), 255);
        Check.due("scan(4)", x.scan(4), 3);
        Check.due("undo() of setScan", x.undo(), 3);
        Check.due("scan(4) after undo()", x.scan(4), 128);

        LinkEstablisher linked = Check.linked();
        Check.due("setScan of a linked station", linked.setScan(0, 4), 255);
        Check.due("it stays linked", linked.link(0), 3);

        Check.refusedOutside("setScan(s, 1)", Check::linked, 0, 4, v -> o -> o.setScan(v, 1));
        Check.refusedOutside("setScan(0, v)", Check::linked, 1, 255, v -> o -> o.setScan(0, v));
    }

    private static void promise3SetQuality() {
        LinkEstablisher x = new LinkEstablisher();
        Check.due("setQuality(0, 4, 7, 30)", x.setQuality(0, 4, 7, 30), 15);
        Check.due("setQuality(4, 0, 7, 0)", x.setQuality(4, 0, 7, 0), 30);
        Check.due("setQuality(0, 4, 7, 9)", x.setQuality(0, 4, 7, 9), 0);
        Check.due("quality(4, 0, 7)", x.quality(4, 0, 7), 9);
        Check.due("quality(0, 4, 7)", x.quality(0, 4, 7), 9);
        Check.due("quality(0, 4, 6)", x.quality(0, 4, 6), 15);
        Check.due("quality(0, 3, 7)", x.quality(0, 3, 7), 15);
        Check.due("quality(3, 4, 7)", x.quality(3, 4, 7), 15);
        Check.due("undo() of setQuality", x.undo(), 2);
        Check.due("quality(0, 4, 7) after undo()", x.quality(0, 4, 7), 0);
        Check.due("quality(4, 0, 7) after undo()", x.quality(4, 0, 7), 0);

        Check.refusedOutside("setQuality(v, 1, 0, 0)", Check::linked, 0, 4, v -> o -> o.setQuality(v, 1, 0, 0));
        Check.refusedOutside("setQuality(1, v, 0, 0)", Check::linked, 0, 4, v -> o -> o.setQuality(1, v, 0, 0));
        Check.refusedOutside("setQuality(1, 2, v, 0)", Check::linked, 0, 7, v -> o -> o.setQuality(1, 2, v, 0));
        Check.refusedOutside("setQuality(1, 2, 0, v)", Check::linked, 0, 30, v -> o -> o.setQuality(1, 2, 0, v));
        Check.refused("setQuality(3, 3, 0, 0)", Check::linked, -2, o -> o.setQuality(3, 3, 0, 0));
    }

    private static void promise4SetAgeing() {
        LinkEstablisher x = Check.quiet();
        Check.due("sound(0, 0)", x.sound(0, 0), 30);
        Check.due("pass(29)", x.pass(29), 37);
        Check.due("effective(1, 0, 0) with the ageing 10", x.effective(1, 0, 0), 28);
        Check.due("setAgeing(1)", x.setAgeing(1), 10);
        Check.due("effective(1, 0, 0) with the ageing 1", x.effective(1, 0, 0), 1);
        Check.due("setAgeing(99)", x.setAgeing(99), 1);
        Check.due("effective(1, 0, 0) with the ageing 99", x.effective(1, 0, 0), 30);
        Check.due("undo() of setAgeing", x.undo(), 3);
        Check.due("effective(1, 0, 0) after undo()", x.effective(1, 0, 0), 1);
        Check.due("setAgeing(7) after undo()", x.setAgeing(7), 1);

        Check.refusedOutside("setAgeing", Check::linked, 1, 99, v -> o -> o.setAgeing(v));
    }

    private static void promise5SetNoise() {
        LinkEstablisher x = new LinkEstablisher();
        x.pass(17);
        Check.due("setNoise(0)", x.setNoise(0), 17);
        Check.due("digest() with the state 0", x.digest(), Check.digestOf(x, 2, 10, 0));
        Check.due("setNoise(2147483647)", x.setNoise(2147483647), 17);
        Check.due("digest() with the state 2147483647", x.digest(), Check.digestOf(x, 3, 10, 2147483647));
        x.setScan(1, 1);
        x.sound(0, 0);
        Check.due("transmitted()", x.transmitted(), 4);
        Check.due("digest() behind 4 words", x.digest(),
            Check.digestOf(x, 4, 10, Check.noiseAfter(2147483647, 4 * 72)));
        Check.due("undo()", x.undo(), 3);
        Check.due("undo()", x.undo(), 2);
        Check.due("undo() of setNoise", x.undo(), 1);
        Check.due("digest() behind undo()", x.digest(), Check.digestOf(x, 1, 10, 0));

        Check.refusedOutside("setNoise", Check::linked, 0, 2147483647, v -> o -> o.setNoise(v));
    }

    private static void promise6Pass() {
        LinkEstablisher x = new LinkEstablisher();
        Check.due("pass(1)", x.pass(1), 1);
        Check.due("pass(1000)", x.pass(1000), 1001);
        Check.due("time()", x.time(), 1001);
        Check.due("undo() of pass", x.undo(), 1);
        Check.due("time() after undo()", x.time(), 1);
        Check.due("pass transmits nothing", x.transmitted(), 0);

        Check.refusedOutside("pass", Check::linked, 1, 1000, v -> o -> o.pass(v));
    }
}
