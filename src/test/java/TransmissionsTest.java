/** Promises 7 to 10: soundings, calls, net calls and hanging up. */
final class TransmissionsTest {
    public static void main(String[] args) {
        promise7Sound();
        promise7HearersAndLength();
        promise7Refused();
        promise8Call();
        promise8Order();
        promise8OrderStaysAsAtTheBeginning();
        promise8FailingSteps();
        promise8Refused();
        promise9NetCall();
        promise9MembersLeftOut();
        promise9FailingSteps();
        promise9Refused();
        promise10HangUp();
        Check.finish("TransmissionsTest");
    }

    private static LinkEstablisher net(int caller, int members) {
        LinkEstablisher x = Check.quiet();
        Check.due("net(): netCall", x.netCall(caller, members), members);
        return x;
    }

    private static void promise7Sound() {
        LinkEstablisher x = Check.quiet();
        Check.due("sound(2, 7)", x.sound(2, 7), 27);
        Check.due("time() behind a sounding", x.time(), 8);
        Check.due("transmitted()", x.transmitted(), 4);
        Check.due("decoded()", x.decoded(), 4);
        Check.due("lastVoted()", x.lastVoted(), 65536 * 1 + 256 * 255 + 2);
        Check.due("lastUnanimous()", x.lastUnanimous(), 24);
        for (int listener = 0; listener < 5; listener++) {
            if (listener != 2) {
                Check.due("score(" + listener + ", 2, 7)", x.score(listener, 2, 7), 30);
                Check.due("score(2, " + listener + ", 7)", x.score(2, listener, 7), -1);
                Check.due("score(" + listener + ", 2, 6)", x.score(listener, 2, 6), -1);
            }
        }
        Check.due("a sounding is no call", x.attempts(), 0);
        Check.due("a sounding has no channel of a call", x.lastChannel(), -1);
        x.setAgeing(1);
        Check.due("the score is measured behind the sounding", x.effective(0, 2, 7), 30);
        x.undo();
        Check.due("undo() of sound", x.undo(), 2);
        Check.due("time() after undo()", x.time(), 0);
        Check.due("score(0, 2, 7) after undo()", x.score(0, 2, 7), -1);
        Check.due("transmitted() after undo()", x.transmitted(), 0);

        LinkEstablisher noisy = new LinkEstablisher();
        noisy.setQuality(0, 1, 0, 0);
        noisy.setScan(2, 2);
        noisy.setScan(3, 2);
        noisy.setScan(4, 2);
        Check.due("a sounding that no station decodes", noisy.sound(0, 0), 0);
        Check.due("it is transmitted all the same", noisy.transmitted(), 1);
        Check.due("it is not decoded", noisy.decoded(), 0);
        Check.due("it gives no score", noisy.score(1, 0, 0), -1);
    }

    private static void promise7HearersAndLength() {
        LinkEstablisher x = Check.quiet();
        x.setScan(0, 1);
        x.setScan(1, 6);
        x.setScan(2, 20);
        x.setScan(3, 128);
        x.setScan(4, 4);
        Check.due("stations with the channel in their scan set hear", x.sound(0, 2), 22);
        Check.due("the longest scan has two channels", x.time(), 2);
        Check.due("no station scans the channel", x.sound(4, 3), 0);
        Check.due("it takes its time all the same", x.time(), 4);
        Check.due("nothing is transmitted then", x.transmitted(), 3);
        x.setScan(4, 31);
        Check.due("the sounding station's own scan counts for the length", x.sound(4, 7), 8);
        Check.due("five channels", x.time(), 9);

        LinkEstablisher linked = Check.linked();
        for (int station = 2; station < 5; station++) {
            linked.setScan(station, 1);
        }
        linked.setScan(1, 7);
        int before = linked.time();
        Check.due("linked stations do not hear", linked.sound(2, 0), 24);
        Check.due("linked stations count for the length", linked.time() - before, 8);
    }

    private static void promise7Refused() {
        Check.refusedOutside("sound(v, 0)", Check::linked, 0, 4, v -> o -> o.sound(v, 0));
        Check.refusedOutside("sound(2, v)", Check::linked, 0, 7, v -> o -> o.sound(2, v));
        Check.refused("sound of a linked station", Check::linked, -3, o -> o.sound(1, 0));
        Check.refused("sound of a linked station on channel 8", Check::linked, -2, o -> o.sound(1, 8));
    }

    private static void promise8Call() {
        LinkEstablisher x = Check.quiet();
        x.setScan(3, 240);
        x.setScan(1, 96);
        Check.due("call(3, 1)", x.call(3, 1), 5);
        Check.due("two attempts of two slots, and two slots more", x.time(), 6);
        Check.due("attempts()", x.attempts(), 2);
        Check.due("lastChannel()", x.lastChannel(), 5);
        Check.due("transmitted()", x.transmitted(), 3);
        Check.due("decoded()", x.decoded(), 3);
        Check.due("lastVoted() is the ACKNOWLEDGE word", x.lastVoted(), 65536 * 4 + 256 * 1 + 3);
        Check.due("link(3)", x.link(3), 10);
        Check.due("link(1)", x.link(1), 10);
        Check.due("link(0)", x.link(0), 0);
        Check.due("linkChannel(3)", x.linkChannel(3), 5);
        Check.due("linkChannel(1)", x.linkChannel(1), 5);
        Check.due("linkChannel(0)", x.linkChannel(0), -1);
        Check.due("score(1, 3, 5)", x.score(1, 3, 5), 30);
        Check.due("score(3, 1, 5)", x.score(3, 1, 5), 30);
        x.setAgeing(1);
        Check.due("the called station measured at the ACKNOWLEDGE", x.effective(1, 3, 5), 30);
        Check.due("the caller measured at the RESPONSE, a slot before", x.effective(3, 1, 5), 29);
        Check.due("undo()", x.undo(), 3);
        Check.due("undo() of call", x.undo(), 2);
        Check.due("link(3) after undo()", x.link(3), 0);
        Check.due("linkChannel(1) after undo()", x.linkChannel(1), -1);
        Check.due("attempts() after undo()", x.attempts(), 0);
        Check.due("lastChannel() after undo()", x.lastChannel(), -1);
        Check.due("lastVoted() after undo()", x.lastVoted(), -1);
        Check.due("time() after undo()", x.time(), 0);
    }

    private static void promise8Order() {
        LinkEstablisher x = Check.quiet();
        Check.due("sound(1, 5)", x.sound(1, 5), 29);
        Check.due("sound(1, 2)", x.sound(1, 2), 29);
        Check.due("equal scores: the lower channel", x.bestChannel(0, 1), 2);
        Check.due("pass(4)", x.pass(4), 20);
        Check.due("the older score has aged", x.effective(0, 1, 5), 29);
        x.setScan(1, 8);
        Check.due("channels 2, 5, 0, 1 and then 3", x.call(0, 1), 3);
        Check.due("attempts()", x.attempts(), 5);
        Check.due("five slots of scanning calls and two more", x.time(), 27);

        LinkEstablisher y = Check.quiet();
        y.sound(1, 2);
        y.pass(20);
        y.sound(1, 5);
        y.setScan(1, 4);
        Check.due("channel 5 first, then 2", y.call(0, 1), 2);
        Check.due("attempts()", y.attempts(), 2);

        LinkEstablisher z = Check.quiet();
        z.sound(0, 6);
        z.setScan(1, 64);
        Check.due("the caller's scores count, not the called station's", z.call(0, 1), 6);
        Check.due("attempts()", z.attempts(), 7);
    }

    /** Channel 0 stands ahead of 1 at the beginning, but ages past a step while channel 2 is tried. */
    private static void promise8OrderStaysAsAtTheBeginning() {
        LinkEstablisher x = Check.quiet();
        for (int station = 0; station < 5; station++) {
            x.setScan(station, 7);
        }
        x.sound(1, 0);
        x.sound(1, 1);
        x.pass(13);
        x.sound(1, 2);
        x.setScan(1, 3);
        Check.due("time()", x.time(), 22);
        Check.due("channel 2 comes first", x.bestChannel(0, 1), 2);
        Check.due("effective(0, 1, 0)", x.effective(0, 1, 0), 29);
        Check.due("effective(0, 1, 1)", x.effective(0, 1, 1), 29);
        Check.due("then channel 0", x.call(0, 1), 0);
        Check.due("attempts()", x.attempts(), 2);
    }

    private static void promise8FailingSteps() {
        LinkEstablisher x = new LinkEstablisher();
        x.setScan(0, 129);
        x.setScan(1, 3);
        x.setQuality(0, 1, 0, 0);
        Check.due("CALL not decoded on 0, 7 not scanned by the called station", x.call(0, 1), -1);
        Check.due("attempts()", x.attempts(), 2);
        Check.due("lastChannel()", x.lastChannel(), 7);
        Check.due("two slots an attempt", x.time(), 4);
        Check.due("transmitted()", x.transmitted(), 1);
        Check.due("decoded()", x.decoded(), 0);
        Check.due("link(0)", x.link(0), 0);
        Check.due("link(1)", x.link(1), 0);
        Check.due("a call without success is saved, too", x.undo(), 3);
        Check.due("attempts() after undo()", x.attempts(), 0);

        LinkEstablisher y = Check.quiet();
        for (int channel = 0; channel < 8; channel++) {
            y.setQuality(0, 1, channel, 0);
        }
        Check.due("eight attempts without success", y.call(0, 1), -1);
        Check.due("attempts()", y.attempts(), 8);
        Check.due("lastChannel()", y.lastChannel(), 7);
        Check.due("time()", y.time(), 64);
        Check.due("transmitted()", y.transmitted(), 8);
        y.setQuality(0, 1, 7, 30);
        Check.due("the eighth attempt succeeds", y.call(0, 1), 7);
        Check.due("attempts()", y.attempts(), 8);

        failedHandshake(1);
        failedHandshake(2);
    }

    /** With the first noise state that makes just this number of words arrive, the attempt ends there. */
    private static void failedHandshake(int arriving) {
        for (int state = 0; state < 100000; state++) {
            LinkEstablisher x = new LinkEstablisher();
            x.setScan(0, 1);
            x.setScan(1, 1);
            x.setQuality(0, 1, 0, 22);
            x.setNoise(state);
            int answer = x.call(0, 1);
            if (x.decoded() != arriving) {
                continue;
            }
            Check.due("call with a handshake that breaks off", answer, -1);
            Check.due("transmitted()", x.transmitted(), arriving + 1);
            Check.due("time()", x.time(), 1 + arriving);
            Check.due("link(0)", x.link(0), 0);
            Check.due("link(1)", x.link(1), 0);
            Check.holds("the called station keeps its score", x.score(1, 0, 0) >= 0);
            Check.due("the caller has a score if the RESPONSE arrived", x.score(0, 1, 0) >= 0 ? 1 : 0, arriving - 1);
            return;
        }
        Check.holds("a noise state with " + arriving + " words that arrive", false);
    }

    private static void promise8Refused() {
        Check.refusedOutside("call(v, 2)", Check::linked, 0, 4, v -> o -> o.call(v, 2));
        Check.refusedOutside("call(2, v)", Check::linked, 0, 4, v -> o -> o.call(2, v));
        Check.refused("call(3, 3)", Check::linked, -2, o -> o.call(3, 3));
        Check.refused("call of a linked caller", Check::linked, -3, o -> o.call(0, 2));
        Check.refused("call of a linked station", Check::linked, -3, o -> o.call(2, 1));
        Check.refused("call of one's own link", Check::linked, -3, o -> o.call(0, 1));
        Check.refused("INVALID goes before REJECTED", Check::linked, -2, o -> o.call(0, 0));
        Check.refused("INVALID goes before REJECTED", Check::linked, -2, o -> o.call(5, 1));
    }

    private static void promise9NetCall() {
        LinkEstablisher x = Check.quiet();
        x.setScan(1, 3);
        x.setScan(3, 14);
        Check.due("netChannel(4, 10)", x.netChannel(4, 10), 0);
        x.sound(1, 1);
        x.sound(3, 1);
        Check.due("netChannel(4, 10)", x.netChannel(4, 10), 1);
        int before = x.time();
        Check.due("netCall(4, 10)", x.netCall(4, 10), 10);
        Check.due("3 slots of call, 2 RESPONSE slots, 1 ACKNOWLEDGE slot", x.time() - before, 6);
        Check.due("lastVoted() is ACKNOWLEDGE for all", x.lastVoted(), 65536 * 4 + 256 * 255 + 4);
        Check.due("attempts()", x.attempts(), 1);
        Check.due("lastChannel()", x.lastChannel(), 1);
        for (int station : new int[] {1, 3, 4}) {
            Check.due("link(" + station + ")", x.link(station), 26);
            Check.due("linkChannel(" + station + ")", x.linkChannel(station), 1);
        }
        Check.due("link(0)", x.link(0), 0);
        Check.due("linkChannel(2)", x.linkChannel(2), -1);
        x.setAgeing(1);
        Check.due("the RESPONSE of 1 was measured two slots ago", x.effective(4, 1, 1), 28);
        Check.due("the RESPONSE of 3 was measured a slot ago", x.effective(4, 3, 1), 29);
        Check.due("the ACKNOWLEDGE is measured now", x.effective(1, 4, 1), 30);
        x.undo();
        Check.due("undo() of netCall", x.undo(), 2);
        Check.due("time() after undo()", x.time(), before);
        Check.due("link(4) after undo()", x.link(4), 0);
        Check.due("attempts() after undo()", x.attempts(), 0);

        Check.due("netCall(0, 30), all the others", Check.quiet().netCall(0, 30), 30);
        Check.due("netCall(4, 1), one member", Check.quiet().netCall(4, 1), 1);
    }

    private static void promise9MembersLeftOut() {
        LinkEstablisher x = Check.linked();
        x.setScan(3, 2);
        int before = x.time();
        int sent = x.transmitted();
        Check.due("1 is linked, 3 does not scan the channel", x.netCall(2, 27), 16);
        Check.due("transmitted(): CALL, RESPONSE, ACKNOWLEDGE of 4", x.transmitted() - sent, 3);
        Check.due("time(): a linked member's scan counts", x.time() - before, 10);
        Check.due("link(2)", x.link(2), 20);
        Check.due("link(4)", x.link(4), 20);
        Check.due("the older link stands", x.link(1), 3);

        LinkEstablisher y = Check.linked();
        y.setScan(2, 7);
        before = y.time();
        sent = y.transmitted();
        Check.due("a net call of linked members alone", y.netCall(2, 3), 0);
        Check.due("time()", y.time() - before, 9);
        Check.due("transmitted()", y.transmitted() - sent, 0);
        Check.due("link(2)", y.link(2), 0);
        Check.due("linkChannel(2)", y.linkChannel(2), -1);
        Check.due("lastChannel()", y.lastChannel(), 0);
        Check.due("attempts()", y.attempts(), 1);

        LinkEstablisher z = Check.quiet();
        z.setScan(0, 8);
        z.setScan(1, 7);
        z.setScan(2, 1);
        Check.due("no member scans the caller's channel", z.netCall(0, 6), 0);
        Check.due("the caller's scan set alone is chosen from", z.lastChannel(), 3);
        Check.due("the longest scan of a member, and a slot", z.time(), 4);
        Check.due("a net call without success is saved, too", z.undo(), 3);
        Check.due("lastChannel() after undo()", z.lastChannel(), -1);
    }

    private static void promise9FailingSteps() {
        boolean[] seen = new boolean[4];
        for (int state = 0; state < 2000; state++) {
            LinkEstablisher x = new LinkEstablisher();
            x.setScan(0, 1);
            x.setScan(1, 1);
            x.setQuality(0, 1, 0, 22);
            x.setNoise(state);
            int linked = x.netCall(0, 2);
            int arrived = x.decoded();
            seen[arrived] = true;
            Check.due("netCall(0, 2)", linked, arrived == 3 ? 2 : 0);
            Check.due("transmitted()", x.transmitted(), Math.min(arrived + 1, 3));
            Check.due("time()", x.time(), arrived == 0 ? 2 : 3);
            Check.due("link(0)", x.link(0), arrived == 3 ? 3 : 0);
            Check.due("link(1)", x.link(1), arrived == 3 ? 3 : 0);
            Check.due("linkChannel(0)", x.linkChannel(0), arrived == 3 ? 0 : -1);
        }
        for (int arrived = 0; arrived < 4; arrived++) {
            Check.holds("some net call had " + arrived + " words decoded", seen[arrived]);
        }
    }

    private static void promise9Refused() {
        Check.refusedOutside("netCall(v, 4)", Check::linked, 0, 4, v -> o -> o.netCall(v, 4));
        Check.refusedOutside("netCall(2, v)", Check::linked, 1, 31, v -> o -> o.netCall(2, v));
        Check.refused("netCall(2, 0)", Check::linked, -2, o -> o.netCall(2, 0));
        Check.refused("netCall(2, 4)", Check::linked, -2, o -> o.netCall(2, 4));
        Check.refused("netCall(2, 31)", Check::linked, -2, o -> o.netCall(2, 31));
        Check.refused("netCall of a linked caller", Check::linked, -3, o -> o.netCall(0, 4));
        Check.refused("INVALID goes before REJECTED", Check::linked, -2, o -> o.netCall(0, 5));
    }

    private static void promise10HangUp() {
        LinkEstablisher x = net(0, 30);
        int time = x.time();
        Check.due("hangUp(2)", x.hangUp(2), 27);
        Check.due("link(2)", x.link(2), 0);
        Check.due("linkChannel(2)", x.linkChannel(2), -1);
        Check.due("link(0)", x.link(0), 27);
        Check.due("link(4)", x.link(4), 27);
        Check.due("linkChannel(4)", x.linkChannel(4), 0);
        Check.due("hangUp(0), the caller", x.hangUp(0), 26);
        Check.due("hangUp(4)", x.hangUp(4), 10);
        Check.due("hangUp(1)", x.hangUp(1), 0);
        Check.due("link(3)", x.link(3), 0);
        Check.due("linkChannel(3)", x.linkChannel(3), -1);
        Check.due("listening(3) again", x.listening(3), time % 8);
        Check.due("hanging up takes no time", x.time(), time);
        Check.due("undo() of hangUp", x.undo(), 3);
        Check.due("link(3) after undo()", x.link(3), 10);
        Check.due("linkChannel(1) after undo()", x.linkChannel(1), 0);

        LinkEstablisher two = Check.linked();
        Check.due("call(2, 4)", two.call(2, 4), 0);
        Check.due("hangUp(4)", two.hangUp(4), 0);
        Check.due("the other link stands", two.link(0), 3);
        Check.due("the other link's channel stands", two.linkChannel(1), 0);
        Check.due("hangUp(4) again", two.hangUp(4), -3);

        Check.refusedOutside("hangUp", Check::linked, 0, 4, v -> o -> o.hangUp(v));
        Check.refused("hangUp of a station without a link", Check::linked, -3, o -> o.hangUp(3));
    }
}
