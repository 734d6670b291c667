/** Promises 15 to 27: stations, scores, the counters and the vote. */
final class StationsTest {
    public static void main(String[] args) {
        promise15Scan();
        promise16Listening();
        promise17Quality();
        promise18Score();
        promise19Effective();
        promise20BestChannel();
        promise21NetChannel();
        promise22Link();
        promise23LinkChannel();
        promise24Time();
        promises25And26Counters();
        promise27Vote();
        Check.finish("StationsTest");
    }

    private static void promise15Scan() {
        LinkEstablisher x = Check.linked();
        x.setScan(0, 170);
        Check.due("scan(0) of a linked station", x.scan(0), 170);
        Check.due("scan(4)", x.scan(4), 255);
        Check.refusedOutside("scan", Check::linked, 0, 4, v -> o -> o.scan(v));
    }

    private static void promise16Listening() {
        LinkEstablisher x = new LinkEstablisher();
        x.setScan(1, 128);
        x.setScan(2, 146);
        for (int t = 0; t < 20; t++) {
            Check.due("listening(0) at " + t, x.listening(0), t % 8);
            Check.due("listening(1) at " + t, x.listening(1), 7);
            Check.due("listening(2) at " + t, x.listening(2), new int[] {1, 4, 7}[t % 3]);
            Check.due("pass(1)", x.pass(1), t + 1);
        }
        LinkEstablisher linked = Check.linked();
        Check.due("listening(0), linked", linked.listening(0), -1);
        Check.due("listening(1), linked", linked.listening(1), -1);
        Check.due("listening(2)", linked.listening(2), linked.time() % 8);
        linked.hangUp(0);
        Check.due("listening(1), free again", linked.listening(1), linked.time() % 8);
        Check.refusedOutside("listening", Check::linked, 0, 4, v -> o -> o.listening(v));
    }

    private static void promise17Quality() {
        LinkEstablisher x = new LinkEstablisher();
        x.setQuality(2, 3, 4, 0);
        Check.due("quality(2, 3, 4)", x.quality(2, 3, 4), 0);
        Check.due("quality(3, 2, 4)", x.quality(3, 2, 4), 0);
        Check.due("quality(2, 3, 3)", x.quality(2, 3, 3), 15);
        Check.refusedOutside("quality(v, 1, 0)", Check::linked, 0, 4, v -> o -> o.quality(v, 1, 0));
        Check.refusedOutside("quality(1, v, 0)", Check::linked, 0, 4, v -> o -> o.quality(1, v, 0));
        Check.refusedOutside("quality(1, 2, v)", Check::linked, 0, 7, v -> o -> o.quality(1, 2, v));
        Check.refused("quality(4, 4, 0)", Check::linked, -2, o -> o.quality(4, 4, 0));
    }

    private static void promise18Score() {
        LinkEstablisher x = Check.quiet();
        x.sound(0, 2);
        x.pass(1000);
        Check.due("score(3, 0, 2) does not age", x.score(3, 0, 2), 30);
        Check.due("score(0, 3, 2)", x.score(0, 3, 2), -1);
        for (int quality = 0; quality <= 30; quality++) {
            LinkEstablisher y = new LinkEstablisher();
            for (int station = 2; station < 5; station++) {
                y.setScan(station, 2);
            }
            y.setQuality(0, 1, 0, quality);
            int decoders = y.sound(0, 0);
            int due = decoders == 0 ? -1 : y.lastUnanimous() * 30 / 24;
            Check.due("score(1, 0, 0) with the quality " + quality, y.score(1, 0, 0), due);
        }
        replacedScore();
        Check.refusedOutside("score(v, 1, 0)", Check::linked, 0, 4, v -> o -> o.score(v, 1, 0));
        Check.refusedOutside("score(1, v, 0)", Check::linked, 0, 4, v -> o -> o.score(1, v, 0));
        Check.refusedOutside("score(1, 2, v)", Check::linked, 0, 7, v -> o -> o.score(1, 2, v));
        Check.refused("score(4, 4, 0)", Check::linked, -2, o -> o.score(4, 4, 0));
    }

    /** A later score replaces a better one; a word that is not decoded leaves the score as it is. */
    private static void replacedScore() {
        LinkEstablisher x = Check.quiet();
        x.sound(0, 2);
        Check.due("score(1, 0, 2)", x.score(1, 0, 2), 30);
        x.setQuality(0, 1, 2, 0);
        x.sound(0, 2);
        Check.due("score(1, 0, 2) behind a lost sounding", x.score(1, 0, 2), 30);
        x.setAgeing(1);
        Check.due("its time of measurement is the old one", x.effective(1, 0, 2), 22);
        x.setQuality(0, 1, 2, 24);
        for (int station = 2; station < 5; station++) {
            x.setScan(station, 1);
        }
        for (int i = 0; i < 200; i++) {
            int decoders = x.sound(0, 2);
            if (decoders == 2 && x.lastUnanimous() < 24) {
                Check.due("a lower score replaces it", x.score(1, 0, 2), x.lastUnanimous() * 30 / 24);
                Check.due("with the present time", x.effective(1, 0, 2), x.score(1, 0, 2));
                return;
            }
        }
        Check.holds("some sounding is decoded with a score below 30", false);
    }

    private static void promise19Effective() {
        LinkEstablisher x = new LinkEstablisher();
        x.setQuality(0, 1, 2, 30);
        x.setAgeing(7);
        x.sound(0, 2);
        for (int age = 0; age < 230; age++) {
            Check.due("effective(1, 0, 2) at the age " + age, x.effective(1, 0, 2), Math.max(0, 30 - age / 7));
            x.pass(1);
        }
        Check.due("effective(0, 1, 2)", x.effective(0, 1, 2), -1);
        Check.refusedOutside("effective(v, 1, 0)", Check::linked, 0, 4, v -> o -> o.effective(v, 1, 0));
        Check.refusedOutside("effective(1, v, 0)", Check::linked, 0, 4, v -> o -> o.effective(1, v, 0));
        Check.refusedOutside("effective(1, 2, v)", Check::linked, 0, 7, v -> o -> o.effective(1, 2, v));
        Check.refused("effective(4, 4, 0)", Check::linked, -2, o -> o.effective(4, 4, 0));
    }

    private static void promise20BestChannel() {
        LinkEstablisher x = Check.quiet();
        Check.due("no scores: the lowest channel", x.bestChannel(0, 1), 0);
        x.setScan(0, 160);
        Check.due("of the caller's scan set", x.bestChannel(0, 1), 5);
        Check.due("not of the called station's", x.bestChannel(1, 0), 0);
        x.sound(1, 7);
        Check.due("a score is better than none", x.bestChannel(0, 1), 7);
        Check.due("the called station's scores do not count", x.bestChannel(1, 0), 0);
        x.pass(1000);
        Check.due("an aged score of 0 is better than none", x.bestChannel(0, 1), 7);
        x.sound(1, 3);
        Check.due("a score outside the scan set does not count", x.bestChannel(0, 1), 7);
        x.sound(1, 5);
        Check.due("the younger score", x.bestChannel(0, 1), 5);
        LinkEstablisher linked = Check.linked();
        Check.due("of linked stations, too", linked.bestChannel(0, 1), 0);
        Check.refusedOutside("bestChannel(v, 2)", Check::linked, 0, 4, v -> o -> o.bestChannel(v, 2));
        Check.refusedOutside("bestChannel(2, v)", Check::linked, 0, 4, v -> o -> o.bestChannel(2, v));
        Check.refused("bestChannel(3, 3)", Check::linked, -2, o -> o.bestChannel(3, 3));
    }

    private static void promise21NetChannel() {
        LinkEstablisher x = Check.quiet();
        Check.due("no scores: the lowest channel", x.netChannel(0, 30), 0);
        x.sound(1, 4);
        Check.due("one member with a score", x.netChannel(0, 2), 4);
        Check.due("the smallest score of the members counts", x.netChannel(0, 6), 0);
        x.sound(2, 4);
        Check.due("both have a score", x.netChannel(0, 6), 4);
        Check.due("the third one has none", x.netChannel(0, 14), 0);
        x.pass(60);
        x.sound(1, 6);
        Check.due("one old member keeps the score low", x.netChannel(0, 6), 4);
        x.sound(2, 6);
        Check.due("a younger score of both", x.netChannel(0, 6), 6);
        x.setScan(0, 63);
        Check.due("outside the caller's scan set", x.netChannel(0, 6), 4);
        x.setScan(1, 1);
        Check.due("the members' scan sets do not count", x.netChannel(0, 6), 4);
        Check.due("members that are the highest mask", x.netChannel(4, 15), 0);
        Check.refusedOutside("netChannel(v, 4)", Check::linked, 0, 4, v -> o -> o.netChannel(v, 4));
        Check.refusedOutside("netChannel(2, v)", Check::linked, 1, 31, v -> o -> o.netChannel(2, v));
        Check.refused("netChannel(2, 4)", Check::linked, -2, o -> o.netChannel(2, 4));
        Check.refused("netChannel(2, 31)", Check::linked, -2, o -> o.netChannel(2, 31));
    }

    private static void promise22Link() {
        LinkEstablisher x = Check.linked();
        x.netCall(4, 12);
        int[] due = {3, 3, 28, 28, 28};
        for (int station = 0; station < 5; station++) {
            Check.due("link(" + station + ")", x.link(station), due[station]);
        }
        Check.refusedOutside("link", Check::linked, 0, 4, v -> o -> o.link(v));
    }

    private static void promise23LinkChannel() {
        LinkEstablisher x = Check.linked();
        Check.due("linkChannel(4)", x.linkChannel(4), -1);
        x.setScan(4, 64);
        x.netCall(4, 12);
        int[] due = {0, 0, 6, 6, 6};
        for (int station = 0; station < 5; station++) {
            Check.due("linkChannel(" + station + ")", x.linkChannel(station), due[station]);
        }
        Check.refusedOutside("linkChannel", Check::linked, 0, 4, v -> o -> o.linkChannel(v));
    }

    private static void promise24Time() {
        LinkEstablisher x = Check.quiet();
        Check.due("time()", x.time(), 0);
        x.pass(3);
        x.sound(0, 0);
        Check.due("time() behind pass and sound", x.time(), 11);
        x.call(0, 1);
        Check.due("time() behind call", x.time(), 21);
        x.netCall(2, 8);
        Check.due("time() behind netCall", x.time(), 31);
    }

    private static void promises25And26Counters() {
        LinkEstablisher x = Check.quiet();
        x.setScan(4, 1);
        x.sound(0, 1);
        Check.due("transmitted() behind a sounding with three hearers", x.transmitted(), 3);
        Check.due("decoded()", x.decoded(), 3);
        x.call(0, 1);
        Check.due("transmitted() behind a call", x.transmitted(), 6);
        x.netCall(2, 8);
        Check.due("transmitted() behind a net call", x.transmitted(), 9);
        Check.due("decoded()", x.decoded(), 9);
        x.undo();
        Check.due("transmitted() after undo()", x.transmitted(), 6);
        Check.due("decoded() after undo()", x.decoded(), 6);
        x.setQuality(2, 4, 0, 0);
        Check.due("a call that is not decoded", x.call(4, 2), -1);
        Check.due("transmitted()", x.transmitted(), 7);
        Check.due("decoded()", x.decoded(), 6);
    }

    private static void promise27Vote() {
        LinkEstablisher x = Check.linked();
        long digest = x.digest();
        int top = 16777215;
        Check.due("vote(0, 0, 0)", x.vote(0, 0, 0), 0);
        Check.due("vote(top, top, 0)", x.vote(top, top, 0), top);
        Check.due("vote(top, 0, 0)", x.vote(top, 0, 0), 0);
        Check.due("vote(0, top, 0)", x.vote(0, top, 0), 0);
        Check.due("vote(0, top, top)", x.vote(0, top, top), top);
        Check.due("vote(170, 204, 240)", x.vote(170, 204, 240), 232);
        Check.due("vote(8388608, 8388609, 1)", x.vote(8388608, 8388609, 1), 8388609);
        Check.due("vote changes nothing", x.digest(), digest);
        Check.refusedOutside("vote(v, 0, 0)", Check::linked, 0, top, v -> o -> o.vote(v, 0, 0));
        Check.refusedOutside("vote(0, v, 0)", Check::linked, 0, top, v -> o -> o.vote(0, v, 0));
        Check.refusedOutside("vote(0, 0, v)", Check::linked, 0, top, v -> o -> o.vote(0, 0, v));
    }
}
