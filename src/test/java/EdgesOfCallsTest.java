import java.util.ArrayList;
import java.util.List;

/** The boundary cases of soundings, individual calls, net calls, links, the choice of a channel and votes. */
final class EdgesOfCallsTest {
    public static void main(String[] args) {
        soundingIsHeardInItsLastSlot();
        soundingLastsAsLongAsTheLongestScan();
        soundingGoesToItsHearersInAscendingOrder();
        callEndsAtTheFirstSuccess();
        callTakesTheSlotsOfTheCalledStationsScan();
        callGoesOnBehindABrokenHandshake();
        callPrefersHigherScoresAndLowerChannels();
        channelIsTheLowestOfEqualOnes();
        onlyScoredChannelIsChosen();
        netScoreIsTheSmallestOne();
        netCallTakesTheSlotsOfItsLongestMember();
        netCallOfEverySetOfMembers();
        netCallLinksSomeOfThoseWhoTakePart();
        linkEndsWithItsLastPair();
        linksOfTwoCallsStandApart();
        votesOfEveryBit();
        Check.finish("EdgesOfCallsTest");
    }

    // ---- soundings

    /** Each station listens on one of the channels just at t + L - 1, and on another one at t. */
    private static void soundingIsHeardInItsLastSlot() {
        for (int start = 1; start <= 9; start++) {
            for (int channel = 0; channel < 8; channel++) {
                LinkEstablisher x = Check.quiet();
                x.pass(start);
                Check.due("sound(2, " + channel + ") at " + start, x.sound(2, channel), 27);
                Check.due("time()", x.time(), start + 8);
            }
        }
        LinkEstablisher x = Check.quiet();
        for (int station = 0; station < 5; station++) {
            x.setScan(station, 1 << station);
        }
        for (int channel = 0; channel < 8; channel++) {
            int before = x.time();
            int due = channel < 4 ? 1 << channel : 0;
            Check.due("a sounding of a single slot, on " + channel, x.sound(4, channel), due);
            Check.due("it takes a slot", x.time() - before, 1);
        }
        Check.due("a sounding station does not hear itself", x.sound(3, 3), 0);
    }

    private static void soundingLastsAsLongAsTheLongestScan() {
        for (int longest = 0; longest < 5; longest++) {
            for (int size = 1; size <= 8; size++) {
                LinkEstablisher x = Check.quiet();
                for (int station = 0; station < 5; station++) {
                    x.setScan(station, 1);
                }
                x.setScan(longest, (1 << size) - 1);
                Check.due("sound(1, 0)", x.sound(1, 0), 29);
                Check.due("time() with " + size + " channels of station " + longest, x.time(), size);
                x.setAgeing(1);
                Check.due("measured when the time has been increased", x.effective(0, 1, 0), 30);
            }
        }
    }

    /** The first hearer's word takes the first 72 draws, the next one's the next. */
    private static void soundingGoesToItsHearersInAscendingOrder() {
        int sender = 2;
        int word = 65536 + 256 * 255 + sender;
        boolean[] seen = new boolean[32];
        for (int noise = 0; noise < 400; noise++) {
            LinkEstablisher x = new LinkEstablisher();
            x.setScan(3, 2);
            int due = 0;
            int[] last = null;
            int[] hearers = {0, 1, 4};
            for (int i = 0; i < 3; i++) {
                x.setQuality(sender, hearers[i], 0, 22);
                last = Check.copies(word, 22, Check.noiseAfter(noise, 72 * i));
                due += Check.majority(last) == word ? 1 << hearers[i] : 0;
            }
            x.setNoise(noise);
            Check.due("sound(2, 0) with the noise " + noise, x.sound(sender, 0), due);
            Check.due("lastVoted() is the last hearer's", x.lastVoted(), Check.majority(last));
            Check.due("lastUnanimous()", x.lastUnanimous(), Check.unanimous(last));
            Check.due("transmitted()", x.transmitted(), 3);
            Check.due("decoded()", x.decoded(), Integer.bitCount(due));
            seen[due] = true;
        }
        for (int set : new int[] {0, 1, 2, 3, 16, 17, 18, 19}) {
            Check.holds("some sounding was decoded by just " + set, seen[set]);
        }
    }

    // ---- individual calls

    private static void callEndsAtTheFirstSuccess() {
        for (int channel = 0; channel < 8; channel++) {
            LinkEstablisher x = Check.quiet();
            x.setScan(1, 1 << channel);
            Check.due("call(0, 1)", x.call(0, 1), channel);
            Check.due("attempts()", x.attempts(), channel + 1);
            Check.due("lastChannel()", x.lastChannel(), channel);
            Check.due("linkChannel(0)", x.linkChannel(0), channel);
            Check.due("linkChannel(1)", x.linkChannel(1), channel);
            Check.due("a slot for each attempt and two more", x.time(), channel + 3);
            Check.due("transmitted()", x.transmitted(), 3);

            LinkEstablisher y = Check.quiet();
            y.setScan(0, 1 << channel);
            Check.due("call(0, 1) on the only channel", y.call(0, 1), channel);
            Check.due("attempts()", y.attempts(), 1);
            Check.due("bestChannel(0, 1)", y.bestChannel(0, 1), channel);
            Check.due("netChannel(0, 30)", y.netChannel(0, 30), channel);

            LinkEstablisher z = Check.quiet();
            z.setScan(0, 255 - (1 << channel));
            z.setScan(1, 1 << channel);
            Check.due("call(0, 1) without a common channel", z.call(0, 1), -1);
            Check.due("attempts()", z.attempts(), 7);
            Check.due("lastChannel()", z.lastChannel(), channel == 7 ? 6 : 7);
            Check.due("a slot for each attempt", z.time(), 7);
            Check.due("transmitted()", z.transmitted(), 0);
            Check.due("lastVoted()", z.lastVoted(), -1);
        }
    }

    private static void callTakesTheSlotsOfTheCalledStationsScan() {
        for (int size = 1; size <= 8; size++) {
            LinkEstablisher x = Check.quiet();
            x.setScan(3, (1 << size) - 1);
            Check.due("call(4, 3)", x.call(4, 3), 0);
            Check.due("time() with " + size + " channels of the called station", x.time(), size + 2);
            LinkEstablisher y = Check.quiet();
            y.setScan(4, (1 << size) - 1);
            Check.due("call(4, 3)", y.call(4, 3), 0);
            Check.due("time() with " + size + " channels of the caller", y.time(), 10);
        }
        for (int good = 0; good < 8; good++) {
            LinkEstablisher x = Check.quiet();
            for (int channel = 0; channel < good; channel++) {
                x.setQuality(0, 1, channel, 0);
            }
            Check.due("call(0, 1)", x.call(0, 1), good);
            Check.due("eight slots for each attempt and two more", x.time(), 8 * (good + 1) + 2);
            Check.due("transmitted()", x.transmitted(), good + 3);
            Check.due("decoded()", x.decoded(), 3);
        }
    }

    /** A handshake that breaks off at any of its words leaves no link, and the next channel is tried. */
    private static void callGoesOnBehindABrokenHandshake() {
        boolean[] seen = new boolean[3];
        for (int noise = 0; noise < 3000; noise++) {
            LinkEstablisher x = new LinkEstablisher();
            x.setScan(0, 3);
            x.setScan(1, 3);
            x.setQuality(0, 1, 0, 22);
            x.setQuality(0, 1, 1, 30);
            x.setNoise(noise);
            int answer = x.call(0, 1);
            int arrived = answer == 0 ? 3 : x.decoded() - 3;
            Check.due("attempts()", x.attempts(), arrived == 3 ? 1 : 2);
            Check.due("call(0, 1)", answer, arrived == 3 ? 0 : 1);
            Check.due("linkChannel(0)", x.linkChannel(0), answer);
            Check.due("transmitted()", x.transmitted(), arrived == 3 ? 3 : arrived + 4);
            Check.due("time()", x.time(), arrived == 3 ? 4 : 2 + arrived + 4);
            if (arrived < 3) {
                Check.due("the called station's score of channel 0", x.score(1, 0, 0) >= 0 ? 1 : 0, arrived > 0 ? 1 : 0);
                Check.due("the caller's score of channel 0", x.score(0, 1, 0) >= 0 ? 1 : 0, arrived > 1 ? 1 : 0);
                seen[arrived] = true;
            }
        }
        for (int arrived = 0; arrived < 3; arrived++) {
            Check.holds("some handshake broke off behind " + arrived + " words", seen[arrived]);
        }
    }

    /** Channels 6, 4 and 2 get scores that differ by one, 7 and 5 equal ones; the others have none. */
    private static void callPrefersHigherScoresAndLowerChannels() {
        int[] order = {6, 4, 2, 5, 7, 0, 1, 3};
        for (int tried = 0; tried < 8; tried++) {
            LinkEstablisher x = Check.quiet();
            x.setAgeing(24);
            x.sound(1, 7);
            x.sound(1, 5);
            x.pass(8);
            x.sound(1, 2);
            x.pass(16);
            x.sound(1, 4);
            x.pass(16);
            x.sound(1, 6);
            x.pass(8);
            Check.due("effective(0, 1, 6)", x.effective(0, 1, 6), 30);
            Check.due("effective(0, 1, 4)", x.effective(0, 1, 4), 29);
            Check.due("effective(0, 1, 2)", x.effective(0, 1, 2), 28);
            Check.due("effective(0, 1, 5)", x.effective(0, 1, 5), 27);
            Check.due("effective(0, 1, 7)", x.effective(0, 1, 7), 27);
            x.setScan(1, 1 << order[tried]);
            Check.due("bestChannel(0, 1)", x.bestChannel(0, 1), 6);
            Check.due("call(0, 1)", x.call(0, 1), order[tried]);
            Check.due("attempts()", x.attempts(), tried + 1);
        }
    }

    // ---- the choice of a channel

    private static void channelIsTheLowestOfEqualOnes() {
        LinkEstablisher x = Check.quiet();
        for (int set = 1; set <= 255; set++) {
            int lowest = Integer.numberOfTrailingZeros(set);
            x.setScan(2, set);
            Check.due("bestChannel(2, 4) of " + set, x.bestChannel(2, 4), lowest);
            Check.due("netChannel(2, 27) of " + set, x.netChannel(2, 27), lowest);
        }
        LinkEstablisher scored = Check.quiet();
        scored.setAgeing(99);
        for (int channel = 0; channel < 8; channel++) {
            scored.sound(4, channel);
        }
        for (int set = 1; set <= 255; set += 2) {
            scored.setScan(2, 256 - set);
            int lowest = Integer.numberOfTrailingZeros(256 - set);
            Check.due("bestChannel(2, 4), all scores equal", scored.bestChannel(2, 4), lowest);
            Check.due("netChannel(2, 16), all scores equal", scored.netChannel(2, 16), lowest);
        }
    }

    private static void onlyScoredChannelIsChosen() {
        for (int channel = 0; channel < 8; channel++) {
            LinkEstablisher x = Check.quiet();
            x.sound(4, channel);
            Check.due("bestChannel(0, 4)", x.bestChannel(0, 4), channel);
            Check.due("netChannel(0, 16)", x.netChannel(0, 16), channel);
            Check.due("bestChannel(4, 0), which measured nothing", x.bestChannel(4, 0), 0);
            Check.due("netCall(0, 16)", x.netCall(0, 16), 16);
            Check.due("linkChannel(4)", x.linkChannel(4), channel);
            x.undo();
            x.setScan(0, 255 - (1 << channel));
            Check.due("not outside the caller's scan set", x.bestChannel(0, 4), channel == 0 ? 1 : 0);
            Check.due("nor in a net call", x.netChannel(0, 16), channel == 0 ? 1 : 0);
        }
    }

    /** On channel 6 three members have the highest score and one has none; on 7 all four have a lower one. */
    private static void netScoreIsTheSmallestOne() {
        for (int without = 1; without < 5; without++) {
            LinkEstablisher x = Check.quiet();
            x.setAgeing(1);
            for (int member = 1; member < 5; member++) {
                x.sound(member, 7);
            }
            x.pass(100);
            for (int member = 1; member < 5; member++) {
                if (member != without) {
                    x.sound(member, 6);
                }
            }
            Check.due("effective(0, 1, 7)", x.effective(0, 1, 7), 0);
            Check.due("all have a score on 7 alone", x.netChannel(0, 30), 7);
            Check.due("the others have one on 6", x.netChannel(0, 30 - (1 << without)), 6);
            Check.due("the one of them has none on 6", x.netChannel(0, 1 << without), 7);
        }
    }

    // ---- net calls

    private static void netCallTakesTheSlotsOfItsLongestMember() {
        for (int size = 1; size <= 8; size++) {
            for (int longest = 1; longest < 5; longest++) {
                LinkEstablisher x = Check.quiet();
                for (int station = 1; station < 5; station++) {
                    x.setScan(station, 1);
                }
                x.setScan(longest, (1 << size) - 1);
                Check.due("netCall(0, 30)", x.netCall(0, 30), 30);
                Check.due("time() with " + size + " channels of a member", x.time(), size + 5);
                x.undo();
                int others = 30 - (1 << longest);
                Check.due("netCall(0, others)", x.netCall(0, others), others);
                Check.due("time(): who is no member does not count, nor does the caller", x.time(), 1 + 4);
            }
        }
    }

    private static void netCallOfEverySetOfMembers() {
        for (int caller = 0; caller < 5; caller++) {
            for (int members = 1; members <= 31; members++) {
                if ((members >> caller & 1) == 1) {
                    continue;
                }
                LinkEstablisher x = Check.quiet();
                int count = Integer.bitCount(members);
                Check.due("netCall(" + caller + ", " + members + ")", x.netCall(caller, members), members);
                Check.due("time()", x.time(), 8 + count + 1);
                Check.due("transmitted()", x.transmitted(), 3 * count);
                Check.due("decoded()", x.decoded(), 3 * count);
                Check.due("attempts()", x.attempts(), 1);
                for (int station = 0; station < 5; station++) {
                    boolean in = station == caller || (members >> station & 1) == 1;
                    Check.due("link(" + station + ")", x.link(station), in ? members + (1 << caller) : 0);
                    Check.due("linkChannel(" + station + ")", x.linkChannel(station), in ? 0 : -1);
                }
            }
        }
    }

    /** The reference model tells what is due; of those who take part none, the first, the last or all are linked. */
    private static void netCallLinksSomeOfThoseWhoTakePart() {
        List<Integer> seen = new ArrayList<>();
        for (int noise = 0; noise < 3000; noise++) {
            LinkEstablisher x = new LinkEstablisher();
            ReferenceModel model = new ReferenceModel();
            for (int member : new int[] {1, 3, 4}) {
                x.setQuality(0, member, 0, 24);
                model.setQuality(0, member, 0, 24);
            }
            x.setNoise(noise);
            model.setNoise(noise);
            int answer = x.netCall(0, 26);
            Check.due("netCall(0, 26) with the noise " + noise, answer, model.netCall(0, 26));
            Check.due("digest()", x.digest(), model.digest());
            Check.due("the caller is linked if a member is", x.link(0), answer == 0 ? 0 : answer + 1);
            Check.due("linkChannel(0)", x.linkChannel(0), answer == 0 ? -1 : 0);
            boolean allTookPart = x.transmitted() == 9;
            if (allTookPart && !seen.contains(answer)) {
                seen.add(answer);
            }
        }
        for (int linked : new int[] {0, 2, 8, 10, 16, 18, 24, 26}) {
            Check.holds("of three that took part just " + linked + " were linked once", seen.contains(linked));
        }
    }

    // ---- links

    /** Links of two to five stations; each of them is the first to leave. */
    private static void linkEndsWithItsLastPair() {
        for (int members = 2; members <= 30; members += 2) {
            int link = members + 1;
            for (int leaving = 0; leaving < 5; leaving++) {
                if ((link >> leaving & 1) == 0) {
                    continue;
                }
                LinkEstablisher x = Check.quiet();
                x.setScan(0, 128);
                Check.due("netCall(0, " + members + ")", x.netCall(0, members), members);
                int rest = link - (1 << leaving);
                rest = Integer.bitCount(rest) == 1 ? 0 : rest;
                Check.due("hangUp(" + leaving + ") of " + link, x.hangUp(leaving), rest);
                for (int station = 0; station < 5; station++) {
                    boolean in = (rest >> station & 1) == 1;
                    Check.due("link(" + station + ")", x.link(station), in ? rest : 0);
                    Check.due("linkChannel(" + station + ")", x.linkChannel(station), in ? 7 : -1);
                }
                Check.due("hangUp(" + leaving + ") again", x.hangUp(leaving), -3);
            }
        }
    }

    /** Two links on one channel, of two and of three stations. */
    private static void linksOfTwoCallsStandApart() {
        for (int leaving = 0; leaving < 5; leaving++) {
            LinkEstablisher x = Check.quiet();
            Check.due("netCall(1, 24)", x.netCall(1, 24), 24);
            Check.due("call(2, 0)", x.call(2, 0), 0);
            boolean ofTwo = leaving == 0 || leaving == 2;
            int rest = ofTwo ? 0 : 26 - (1 << leaving);
            Check.due("hangUp(" + leaving + ")", x.hangUp(leaving), rest);
            for (int station = 0; station < 5; station++) {
                int stays = station == 0 || station == 2 ? (ofTwo ? 0 : 5) : ofTwo ? 26 : station == leaving ? 0 : rest;
                Check.due("link(" + station + ")", x.link(station), stays);
                Check.due("linkChannel(" + station + ")", x.linkChannel(station), stays == 0 ? -1 : 0);
            }
        }
    }

    // ---- votes

    private static void votesOfEveryBit() {
        LinkEstablisher x = new LinkEstablisher();
        int top = 16777215;
        for (int bit = 0; bit < 24; bit++) {
            int one = 1 << bit;
            for (int votes = 0; votes < 8; votes++) {
                int a = votes & 1;
                int b = votes >> 1 & 1;
                int c = votes >> 2;
                boolean most = a + b + c >= 2;
                Check.due("bit " + bit, x.vote(a * one, b * one, c * one), most ? one : 0);
                Check.due("bit " + bit + " among ones", x.vote(top - a * one, top - b * one, top - c * one),
                    most ? top - one : top);
            }
        }
        Check.due("lastVoted() tells of transmissions alone", x.lastVoted(), -1);
        Check.due("lastUnanimous() does, too", x.lastUnanimous(), -1);
        Check.due("undo(): a vote is not saved", x.undo(), -3);
    }
}
