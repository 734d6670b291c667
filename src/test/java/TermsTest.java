import java.math.BigInteger;
import java.util.Arrays;

/** The boundary cases that 'Terms' names: scanning, noise, votes, scores and their age, the digest's overflow. */
final class TermsTest {
    public static void main(String[] args) {
        scanningWrapsAround();
        linkedStationsDoNotScan();
        qualitiesAreTheSameInBothDirections();
        noiseWrapsAround();
        drawAtTheLimitIsNotInverted();
        drawsRunOverCopiesAndBits();
        oneInvertedCopyIsOutvoted();
        twoInvertedCopiesWin();
        threeInvertedCopiesAreUnanimous();
        everyMeasuredScore();
        scoreOfZeroIsAScore();
        scoresAge();
        answersOf512Calls();
        digestOverflows();
        Check.finish("TermsTest");
    }

    // ---- stations, channels and time

    private static void scanningWrapsAround() {
        int[] sets = {255, 127, 126, 248, 165, 73, 129, 6, 1, 128};
        for (int set : sets) {
            int[] channels = channelsOf(set);
            LinkEstablisher x = new LinkEstablisher();
            x.setScan(3, set);
            for (int t = 0; t <= 2 * channels.length + 1; t++) {
                Check.due("listening(3) at " + t + " with " + set, x.listening(3), channels[t % channels.length]);
                x.pass(1);
            }
            int t = x.time();
            for (int i = 0; i < 20; i++) {
                t = x.pass(1000 - i);
                Check.due("listening(3) at " + t + " with " + set, x.listening(3), channels[t % channels.length]);
            }
        }
    }

    private static int[] channelsOf(int set) {
        int[] channels = new int[8];
        int count = 0;
        for (int channel = 0; channel < 8; channel++) {
            if (set / (1 << channel) % 2 == 1) {
                channels[count++] = channel;
            }
        }
        return Arrays.copyOf(channels, count);
    }

    private static void linkedStationsDoNotScan() {
        LinkEstablisher x = Check.linked();
        for (int i = 0; i < 9; i++) {
            Check.due("listening(0), linked", x.listening(0), -1);
            Check.due("listening(1), linked", x.listening(1), -1);
            Check.due("listening(2), not linked", x.listening(2), x.time() % 8);
            int sent = x.transmitted();
            Check.due("sound(2, " + i % 8 + ")", x.sound(2, i % 8), 24);
            Check.due("linked stations are sent no SOUND word", x.transmitted() - sent, 2);
            sent = x.transmitted();
            Check.due("netCall(2, 3)", x.netCall(2, 3), 0);
            Check.due("linked stations are sent no CALL word", x.transmitted() - sent, 0);
            x.pass(1);
        }
        x.hangUp(1);
        Check.due("listening(0) at the time that has come", x.listening(0), x.time() % 8);
        Check.due("sound(2, 0), heard by all again", x.sound(2, 0), 27);
    }

    private static void qualitiesAreTheSameInBothDirections() {
        for (int station = 0; station < 5; station++) {
            for (int other = 0; other < 5; other++) {
                if (station == other) {
                    continue;
                }
                LinkEstablisher x = new LinkEstablisher();
                for (int quality : new int[] {0, 30, 1, 29}) {
                    x.setQuality(station, other, 7, quality);
                    Check.due("quality there", x.quality(station, other, 7), quality);
                    Check.due("quality back", x.quality(other, station, 7), quality);
                    Check.due("the previous quality, asked back", x.setQuality(other, station, 7, quality), quality);
                }
                Check.due("quality on the next channel", x.quality(station, other, 6), 15);
            }
        }
    }

    // ---- noise

    private static void noiseWrapsAround() {
        Check.due("the state behind 0", Check.noiseAfter(0, 1), 12345);
        Check.due("the state behind 2147483647", Check.noiseAfter(2147483647, 1), 1043980748);
        for (int state : new int[] {0, 1, 2, 65535, 65536, 1073741823, 1073741824, 2147483646, 2147483647}) {
            LinkEstablisher x = heardBy1(0, state);
            Check.due("no draw before a transmission", x.digest(), Check.digestOf(x, 4, 10, state));
            x.sound(0, 0);
            Check.due("transmitted()", x.transmitted(), 1);
            Check.due("72 draws behind " + state, x.digest(), Check.digestOf(x, 4, 10, Check.noiseAfter(state, 72)));
            wordsAreAsDue(x, 0, state);
        }
    }

    /** What station 0 sends on channel 0 arrives at station 1 alone, with this quality and this noise. */
    private static LinkEstablisher heardBy1(int quality, int noise) {
        LinkEstablisher x = new LinkEstablisher();
        x.setScan(2, 2);
        x.setScan(3, 2);
        x.setScan(4, 2);
        x.setQuality(0, 1, 0, quality);
        x.setNoise(noise);
        return x;
    }

    private static final int SOUND_WORD = 65536 + 256 * 255;

    private static void wordsAreAsDue(LinkEstablisher x, int quality, int noise) {
        int[] copies = Check.copies(SOUND_WORD, quality, noise);
        Check.due("lastVoted() from " + noise, x.lastVoted(), Check.majority(copies));
        Check.due("lastUnanimous() from " + noise, x.lastUnanimous(), Check.unanimous(copies));
        Check.due("decoded() from " + noise, x.decoded(), Check.majority(copies) == SOUND_WORD ? 1 : 0);
    }

    /**
     * A bit arrives inverted if 2 * d > 30 + quality: just one draw is the greatest, d, and with the quality 2 * d - 30
     * it does not invert, with the quality below it inverts that one bit.
     */
    private static void drawAtTheLimitIsNotInverted() {
        for (int d = 30; d >= 28; d--) {
            int limit = 2 * d - 30;
            int noise = 0;
            while (noise < 1000000 && !(inverted(limit, noise) == 0 && inverted(limit - 1, noise) == 1)) {
                noise++;
            }
            LinkEstablisher at = heardBy1(limit, noise);
            Check.due("sound(0, 0) with a draw at the limit", at.sound(0, 0), 2);
            Check.due("lastUnanimous() with the draw " + d + " and the quality " + limit, at.lastUnanimous(), 24);
            LinkEstablisher below = heardBy1(limit - 1, noise);
            Check.due("sound(0, 0) with a draw beyond it", below.sound(0, 0), 2);
            Check.due("lastUnanimous() with the quality below", below.lastUnanimous(), 23);
        }
        for (int quality = 0; quality <= 30; quality++) {
            for (int noise = 0; noise < 40; noise++) {
                LinkEstablisher x = heardBy1(quality, noise);
                x.sound(0, 0);
                wordsAreAsDue(x, quality, noise);
            }
        }
        LinkEstablisher quiet = heardBy1(30, 0);
        for (int i = 1; i <= 100; i++) {
            Check.due("the quality 30 inverts nothing", quiet.sound(0, 0), 2);
            Check.due("lastUnanimous()", quiet.lastUnanimous(), 24);
        }
    }

    private static int inverted(int quality, int noise) {
        int count = 0;
        for (int copy : Check.copies(0, quality, noise)) {
            count += Integer.bitCount(copy);
        }
        return count;
    }

    // ---- votes

    /** The first noise state up from 0 that, with the quality 29, inverts just these bits of the three copies. */
    private static int noiseThatInverts(int first, int second, int third) {
        for (int noise = 0; noise < 2000000; noise++) {
            int[] copies = Check.copies(0, 29, noise);
            if (copies[0] == first && copies[1] == second && copies[2] == third) {
                return noise;
            }
        }
        Check.holds("a noise state that inverts " + first + ", " + second + ", " + third, false);
        return 0;
    }

    private static void received(String what, int noise, int voted, int unanimous) {
        LinkEstablisher x = heardBy1(29, noise);
        boolean arrives = voted == SOUND_WORD;
        Check.due(what + ": sound(0, 0)", x.sound(0, 0), arrives ? 2 : 0);
        Check.due(what + ": lastVoted()", x.lastVoted(), voted);
        Check.due(what + ": lastUnanimous()", x.lastUnanimous(), unanimous);
        Check.due(what + ": transmitted()", x.transmitted(), 1);
        Check.due(what + ": decoded()", x.decoded(), arrives ? 1 : 0);
        Check.due(what + ": score(1, 0, 0)", x.score(1, 0, 0), arrives ? unanimous * 30 / 24 : -1);
    }

    /** Copy 0 before 1 before 2, and in each bit 0 to 23: the first, the last and the draws between two copies. */
    private static void drawsRunOverCopiesAndBits() {
        int[] bits = {0, 1, 22, 23};
        for (int bit : bits) {
            received("copy 0", noiseThatInverts(1 << bit, 0, 0), SOUND_WORD, 23);
            received("copy 1", noiseThatInverts(0, 1 << bit, 0), SOUND_WORD, 23);
            received("copy 2", noiseThatInverts(0, 0, 1 << bit), SOUND_WORD, 23);
        }
    }

    private static void oneInvertedCopyIsOutvoted() {
        received("no bit inverted", noiseThatInverts(0, 0, 0), SOUND_WORD, 24);
        received("two bits of one copy", noiseThatOutvotes(1, 2), SOUND_WORD, 22);
        received("two bits of two copies", noiseThatOutvotes(2, 2), SOUND_WORD, 22);
        received("three bits of three copies", noiseThatOutvotes(3, 3), SOUND_WORD, 21);
    }

    /** The first noise state that, with the quality 29, inverts so many bits in so many copies, and no bit twice. */
    private static int noiseThatOutvotes(int copiesHit, int bits) {
        for (int noise = 0; noise < 100000; noise++) {
            int[] copies = Check.copies(0, 29, noise);
            int hit = 0;
            for (int copy : copies) {
                hit += copy != 0 ? 1 : 0;
            }
            if (hit == copiesHit && inverted(29, noise) == bits && Check.unanimous(copies) == 24 - bits) {
                return noise;
            }
        }
        Check.holds("a noise state that inverts " + bits + " bits in " + copiesHit + " copies", false);
        return 0;
    }

    /** Bits 8 to 16 of the word are set, the others are not: a lost bit and an added one both spoil it. */
    private static void twoInvertedCopiesWin() {
        for (int bit : new int[] {0, 7, 8, 16, 17, 23}) {
            int mask = 1 << bit;
            int voted = SOUND_WORD ^ mask;
            received("copies 0 and 1, bit " + bit, noiseThatInverts(mask, mask, 0), voted, 23);
            received("copies 0 and 2, bit " + bit, noiseThatInverts(mask, 0, mask), voted, 23);
            received("copies 1 and 2, bit " + bit, noiseThatInverts(0, mask, mask), voted, 23);
        }
    }

    private static void threeInvertedCopiesAreUnanimous() {
        for (int noise = 0; noise < 2000000; noise++) {
            int[] copies = Check.copies(0, 29, noise);
            if (copies[0] != 0 && copies[0] == copies[1] && copies[1] == copies[2]) {
                received("all the copies wrong alike", noise, SOUND_WORD ^ copies[0], 24);
                return;
            }
        }
        Check.holds("a noise state that inverts all the copies alike", false);
    }

    // ---- scores

    /** Noise states with which a word is decoded by just 0, 1, .. 24 unanimous votes; the first has the quality 10. */
    private static final int[] NOISE_OF_VOTES = {86842349, 271141430, 1139730, 986331, 218915, 21070, 20703, 565, 915,
        248, 102, 757, 110, 401, 60, 112, 54, 791, 2503, 4923, 33307, 1285, 301331, 434575, 167047421};
    private static final int[] SCORE_OF_VOTES = {0, 1, 2, 3, 5, 6, 7, 8, 10, 11, 12, 13, 15, 16, 17, 18, 20, 21, 22, 23,
        25, 26, 27, 28, 30};

    private static LinkEstablisher measured(int unanimous) {
        LinkEstablisher x = heardBy1(unanimous == 0 ? 10 : 16, NOISE_OF_VOTES[unanimous]);
        Check.due("sound(0, 0) with " + unanimous + " unanimous votes", x.sound(0, 0), 2);
        return x;
    }

    private static void everyMeasuredScore() {
        for (int unanimous = 0; unanimous <= 24; unanimous++) {
            LinkEstablisher x = measured(unanimous);
            Check.due("lastUnanimous()", x.lastUnanimous(), unanimous);
            Check.due("lastVoted()", x.lastVoted(), SOUND_WORD);
            Check.due("decoded()", x.decoded(), 1);
            Check.due("score of " + unanimous + " votes", x.score(1, 0, 0), SCORE_OF_VOTES[unanimous]);
            Check.due("effective(1, 0, 0)", x.effective(1, 0, 0), SCORE_OF_VOTES[unanimous]);
            Check.due("the sender measures nothing", x.score(0, 1, 0), -1);
        }
    }

    /** No score is -1, which is less than the lowest score, 0. */
    private static void scoreOfZeroIsAScore() {
        LinkEstablisher x = measured(0);
        Check.due("score(1, 0, 0)", x.score(1, 0, 0), 0);
        Check.due("effective(1, 0, 0)", x.effective(1, 0, 0), 0);
        x.pass(1000);
        Check.due("effective(1, 0, 0) does not fall below 0", x.effective(1, 0, 0), 0);
        Check.due("effective(1, 0, 1) without a score", x.effective(1, 0, 1), -1);

        LinkEstablisher y = Check.quiet();
        y.sound(0, 5);
        y.setAgeing(1);
        y.pass(31);
        Check.due("effective(1, 0, 5), aged away", y.effective(1, 0, 5), 0);
        Check.due("0 comes before no score", y.bestChannel(1, 0), 5);
        Check.due("0 comes before no score in a net, too", y.netChannel(1, 1), 5);
        y.setScan(0, 33);
        Check.due("call(1, 0)", y.call(1, 0), 5);
        Check.due("attempts()", y.attempts(), 1);
    }

    private static void scoresAge() {
        for (int ageing : new int[] {1, 2, 10, 98, 99}) {
            for (int fallen = 0; fallen <= 32; fallen++) {
                int due = Math.max(0, 30 - fallen);
                String what = "effective(1, 0, 0) with the ageing " + ageing;
                LinkEstablisher x = Check.quiet();
                x.setAgeing(ageing);
                x.sound(0, 0);
                passSlots(x, fallen * ageing);
                Check.due(what + " at the first slot of " + fallen, x.effective(1, 0, 0), due);
                passSlots(x, ageing - 1);
                Check.due(what + " at the last slot of " + fallen, x.effective(1, 0, 0), due);
                Check.due("score(1, 0, 0) does not age", x.score(1, 0, 0), 30);
            }
        }
        LinkEstablisher five = measured(4);
        five.pass(49);
        Check.due("a score of 5 at the age 49", five.effective(1, 0, 0), 1);
        five.pass(1);
        Check.due("a score of 5 at the age 50", five.effective(1, 0, 0), 0);
        five.pass(10);
        Check.due("a score of 5 at the age 60", five.effective(1, 0, 0), 0);
    }

    private static void passSlots(LinkEstablisher x, int slots) {
        int left = slots;
        while (left > 0) {
            int step = Math.min(left, 1000);
            x.pass(step);
            left -= step;
        }
    }

    // ---- the object's life

    /** An object is used for at most 512 calls: the last one answers as the first ones do. */
    private static void answersOf512Calls() {
        LinkEstablisher x = new LinkEstablisher();
        for (int i = 1; i <= 511; i++) {
            Check.due("call " + i, x.pass(1000), 1000 * i);
        }
        Check.due("the 512th call", x.time(), 511000);

        LinkEstablisher y = new LinkEstablisher();
        for (int i = 1; i <= 511; i++) {
            y.sound(i % 5, i % 8);
        }
        Check.due("time() behind 511 soundings", y.time(), 8 * 511);
        Check.due("transmitted() behind 511 soundings", y.transmitted(), 4 * 511);

        LinkEstablisher z = new LinkEstablisher();
        for (int i = 1; i <= 511; i++) {
            Check.due("errorCount(-1)", z.errorCount(-1), -2);
        }
        Check.due("errorCount(0)", z.errorCount(0), 511);
    }

    /** The digest of a new object, as a number without bounds of which a long keeps the low 64 bits. */
    private static void digestOverflows() {
        BigInteger h = BigInteger.valueOf(12164);
        int[] first = {0, 0, 0, 0, 10, 1, 0, 0, 0, -1, -1, -1};
        for (int v : first) {
            h = next(h, v);
        }
        for (int station = 0; station < 5; station++) {
            h = next(next(next(h, 255), 0), -1);
        }
        for (int cell = 0; cell < 5 * 4 * 8; cell++) {
            h = next(next(h, -1), -1);
        }
        Check.holds("the hash runs over", h.bitLength() > 1000);
        Check.due("digest() of a new object", new LinkEstablisher().digest(), h.longValue());
    }

    private static BigInteger next(BigInteger h, int v) {
        return h.multiply(BigInteger.valueOf(31)).add(BigInteger.valueOf(v));
    }
}
