import java.util.Arrays;

/** A simulator of automatic link establishment; ../shared/DOC.md says what each method promises. */
public final class LinkEstablisher {
    public static final int NONE = -1;
    public static final int INVALID = -2;
    public static final int REJECTED = -3;
    public static final int SOUND = 1, CALL = 2, RESPONSE = 3, ACKNOWLEDGE = 4;

    private static final int STATIONS = 5;
    private static final int CHANNELS = 8;
    private static final int CELLS = STATIONS * STATIONS * CHANNELS;
    private static final int ALL_STATIONS = 31;
    private static final int ALL_CHANNELS = 255;
    private static final int TO_EVERYONE = 255;
    private static final int WORD_BITS = 24;
    private static final int TOP_WORD = 16777215;
    private static final int TOP_QUALITY = 30;
    private static final int TOP_SCORE = 30;
    private static final int FIRST_QUALITY = 15;
    private static final int TOP_AGEING = 99;
    private static final int FIRST_AGEING = 10;
    private static final int TOP_PASS = 1000;
    private static final int TOP_NOISE = 2147483647;
    private static final int SAVED_STATES = 4;

    private final Network network;

    // A ring: the row behind the latest state is the one that is written next.
    private final Network[] savedStates;
    private int nextSaved;
    private int savedCount;

    private int invalidCalls;
    private int rejectedCalls;

    public LinkEstablisher() {
        network = new Network();
        savedStates = new Network[SAVED_STATES];
        for (int i = 0; i < SAVED_STATES; i++) {
            savedStates[i] = new Network();
        }
    }

    // ---- settings

    public int setScan(int station, int channels) {
        if (!isStation(station) || channels < 1 || channels > ALL_CHANNELS) {
            return countInvalid();
        }
        saveState();
        int previous = network.scanSets[station];
        network.scanSets[station] = channels;
        return previous;
    }

    public int setQuality(int station, int other, int channel, int quality) {
        if (!isCell(station, other, channel) || quality < 0 || quality > TOP_QUALITY) {
            return countInvalid();
        }
        saveState();
        int previous = network.qualities[cell(station, other, channel)];
        network.qualities[cell(station, other, channel)] = quality;
        network.qualities[cell(other, station, channel)] = quality;
        return previous;
    }

    public int setAgeing(int slots) {
        if (slots < 1 || slots > TOP_AGEING) {
            return countInvalid();
        }
        saveState();
        int previous = network.ageing;
        network.ageing = slots;
        return previous;
    }

    public int setNoise(int state) {
        if (state < 0) {
            return countInvalid();
        }
        saveState();
        network.noise = state;
        return network.now;
    }

    public int pass(int slots) {
        if (slots < 1 || slots > TOP_PASS) {
            return countInvalid();
        }
        saveState();
        network.now += slots;
        return network.now;
    }

    // ---- transmissions

    public int sound(int station, int channel) {
        if (!isStation(station) || !isChannel(channel)) {
            return countInvalid();
        }
        if (network.isLinked(station)) {
            return countRejected();
        }
        saveState();
        return network.emitSounding(station, channel);
    }

    public int call(int caller, int called) {
        if (!isPair(caller, called)) {
            return countInvalid();
        }
        if (network.isLinked(caller) || network.isLinked(called)) {
            return countRejected();
        }
        saveState();
        return network.callOne(caller, called);
    }

    public int netCall(int caller, int members) {
        if (!isNet(caller, members)) {
            return countInvalid();
        }
        if (network.isLinked(caller)) {
            return countRejected();
        }
        saveState();
        return network.callMany(caller, members);
    }

    public int hangUp(int station) {
        if (!isStation(station)) {
            return countInvalid();
        }
        if (!network.isLinked(station)) {
            return countRejected();
        }
        saveState();
        return network.leaveLink(station);
    }

    // ---- the latest call

    public int attempts() {
        return network.callAttempts;
    }

    public int lastChannel() {
        return network.callChannel;
    }

    public int lastUnanimous() {
        return network.wordUnanimous;
    }

    public int lastVoted() {
        return network.wordVoted;
    }

    // ---- stations and scores

    public int scan(int station) {
        if (!isStation(station)) {
            return countInvalid();
        }
        return network.scanSets[station];
    }

    public int listening(int station) {
        if (!isStation(station)) {
            return countInvalid();
        }
        return network.scannedChannel(station);
    }

    public int quality(int station, int other, int channel) {
        if (!isCell(station, other, channel)) {
            return countInvalid();
        }
        return network.qualities[cell(station, other, channel)];
    }

    public int score(int station, int other, int channel) {
        if (!isCell(station, other, channel)) {
            return countInvalid();
        }
        return network.scores[cell(station, other, channel)];
    }

    public int effective(int station, int other, int channel) {
        if (!isCell(station, other, channel)) {
            return countInvalid();
        }
        return network.agedScore(station, other, channel);
    }

    public int bestChannel(int caller, int called) {
        if (!isPair(caller, called)) {
            return countInvalid();
        }
        return network.preferredChannel(caller, 1 << called);
    }

    public int netChannel(int caller, int members) {
        if (!isNet(caller, members)) {
            return countInvalid();
        }
        return network.preferredChannel(caller, members);
    }

    public int link(int station) {
        if (!isStation(station)) {
            return countInvalid();
        }
        return network.linkSets[station];
    }

    public int linkChannel(int station) {
        if (!isStation(station)) {
            return countInvalid();
        }
        return network.linkChannels[station];
    }

    public int time() {
        return network.now;
    }

    public int transmitted() {
        return network.wordsSent;
    }

    public int decoded() {
        return network.wordsDecoded;
    }

    public int vote(int a, int b, int c) {
        if (!isWord(a) || !isWord(b) || !isWord(c)) {
            return countInvalid();
        }
        return majority(a, b, c);
    }

    // ---- undo and errors

    public int undo() {
        if (savedCount == 0) {
            return countRejected();
        }
        nextSaved = (nextSaved + SAVED_STATES - 1) % SAVED_STATES;
        savedCount--;
        network.copyFrom(savedStates[nextSaved]);
        return savedCount;
    }

    public int errorCount(int kind) {
        if (kind == 0) {
            return invalidCalls;
        }
        if (kind == 1) {
            return rejectedCalls;
        }
        return countInvalid();
    }

    public long digest() {
        long hash = 12164L;
        hash = mix(hash, invalidCalls);
        hash = mix(hash, rejectedCalls);
        hash = mix(hash, savedCount);
        hash = network.mixCounters(hash);
        hash = network.mixStations(hash);
        return network.mixScores(hash);
    }

    private int countInvalid() {
        invalidCalls++;
        return INVALID;
    }

    private int countRejected() {
        rejectedCalls++;
        return REJECTED;
    }

    // To be called when no error applies any more and nothing has changed yet.
    private void saveState() {
        savedStates[nextSaved].copyFrom(network);
        nextSaved = (nextSaved + 1) % SAVED_STATES;
        savedCount = Math.min(savedCount + 1, SAVED_STATES);
    }

    private static boolean isStation(int station) {
        return station >= 0 && station < STATIONS;
    }

    private static boolean isChannel(int channel) {
        return channel >= 0 && channel < CHANNELS;
    }

    private static boolean isWord(int word) {
        return word >= 0 && word <= TOP_WORD;
    }

    private static boolean isPair(int station, int other) {
        return isStation(station) && isStation(other) && station != other;
    }

    private static boolean isCell(int station, int other, int channel) {
        return isPair(station, other) && isChannel(channel);
    }

    private static boolean isNet(int caller, int members) {
        return isStation(caller) && members >= 1 && members <= ALL_STATIONS && !contains(members, caller);
    }

    private static boolean contains(int set, int element) {
        return (set & (1 << element)) != 0;
    }

    private static int cell(int station, int other, int channel) {
        return (station * STATIONS + other) * CHANNELS + channel;
    }

    private static int majority(int a, int b, int c) {
        return (a & b) | (a & c) | (b & c);
    }

    private static long mix(long hash, long value) {
        return 31L * hash + value;
    }

    /**
     * All that undo brings back. Its methods trust that stations, channels and sets are in range:
     * the public methods have tested them before.
     */
    private static final class Network {
        int now;
        int ageing;
        int noise;
        int wordsSent;
        int wordsDecoded;
        int callAttempts;
        int callChannel;
        int wordUnanimous;
        int wordVoted;
        final int[] scanSets;
        final int[] linkSets;
        final int[] linkChannels;
        final int[] qualities;
        final int[] scores;
        final int[] scoreTimes;

        // No part of the state: each choice of channels fills it anew, so that no call makes a row.
        final int[] channelRanks;

        Network() {
            ageing = FIRST_AGEING;
            noise = 1;
            callChannel = NONE;
            wordUnanimous = NONE;
            wordVoted = NONE;
            scanSets = new int[STATIONS];
            linkSets = new int[STATIONS];
            linkChannels = new int[STATIONS];
            qualities = new int[CELLS];
            scores = new int[CELLS];
            scoreTimes = new int[CELLS];
            channelRanks = new int[CHANNELS];
            Arrays.fill(scanSets, ALL_CHANNELS);
            Arrays.fill(linkChannels, NONE);
            Arrays.fill(qualities, FIRST_QUALITY);
            Arrays.fill(scores, NONE);
        }

        void copyFrom(Network other) {
            now = other.now;
            ageing = other.ageing;
            noise = other.noise;
            wordsSent = other.wordsSent;
            wordsDecoded = other.wordsDecoded;
            callAttempts = other.callAttempts;
            callChannel = other.callChannel;
            wordUnanimous = other.wordUnanimous;
            wordVoted = other.wordVoted;
            System.arraycopy(other.scanSets, 0, scanSets, 0, STATIONS);
            System.arraycopy(other.linkSets, 0, linkSets, 0, STATIONS);
            System.arraycopy(other.linkChannels, 0, linkChannels, 0, STATIONS);
            System.arraycopy(other.qualities, 0, qualities, 0, CELLS);
            System.arraycopy(other.scores, 0, scores, 0, CELLS);
            System.arraycopy(other.scoreTimes, 0, scoreTimes, 0, CELLS);
        }

        // ---- scanning

        boolean isLinked(int station) {
            return linkSets[station] != 0;
        }

        int scannedChannel(int station) {
            int scanned = Integer.bitCount(scanSets[station]);
            if (isLinked(station) || scanned == 0) {
                return NONE;
            }
            // Of a time that has run over, far behind the last promised call, % would be negative.
            int index = Math.floorMod(now, scanned);
            for (int channel = 0; channel < CHANNELS; channel++) {
                if (contains(scanSets[station], channel)) {
                    if (index == 0) {
                        return channel;
                    }
                    index--;
                }
            }
            return NONE;
        }

        // Soundings and net calls last at least as long as a scan of any station that they are for,
        // so whatever the time, such a station listens once on each channel of its set.
        boolean hears(int station, int channel) {
            return !isLinked(station) && contains(scanSets[station], channel);
        }

        int longestScan(int stations) {
            int longest = 0;
            for (int station = 0; station < STATIONS; station++) {
                if (contains(stations, station)) {
                    longest = Math.max(longest, Integer.bitCount(scanSets[station]));
                }
            }
            return longest;
        }

        // ---- words

        int drawNoise() {
            // An int product is right modulo 4294967296, so its low 31 bits are right, too.
            noise = (noise * 1103515245 + 12345) & TOP_NOISE;
            return (noise / 65536) % 31;
        }

        int receiveCopy(int word, int quality) {
            int received = word;
            for (int bit = 0; bit < WORD_BITS; bit++) {
                if (2 * drawNoise() > 30 + quality) {
                    received ^= 1 << bit;
                }
            }
            return received;
        }

        // Tells whether the receiver decoded the word.
        boolean transmit(int kind, int from, int to, int address, int channel) {
            int word = 65536 * kind + 256 * address + from;
            int quality = qualities[cell(from, to, channel)];
            int first = receiveCopy(word, quality);
            int second = receiveCopy(word, quality);
            int third = receiveCopy(word, quality);
            wordVoted = majority(first, second, third);
            wordUnanimous = WORD_BITS - Integer.bitCount((first ^ second) | (first ^ third));
            wordsSent++;
            if (wordVoted != word) {
                return false;
            }
            wordsDecoded++;
            scores[cell(to, from, channel)] = wordUnanimous * TOP_SCORE / WORD_BITS;
            scoreTimes[cell(to, from, channel)] = now;
            return true;
        }

        // ---- choice of a channel

        int agedScore(int station, int other, int channel) {
            int measured = scores[cell(station, other, channel)];
            if (measured == NONE || ageing < 1) {
                return NONE;
            }
            int age = now - scoreTimes[cell(station, other, channel)];
            return Math.max(0, measured - age / ageing);
        }

        int netScore(int caller, int members, int channel) {
            int smallest = TOP_SCORE;
            for (int member = 0; member < STATIONS; member++) {
                if (contains(members, member)) {
                    smallest = Math.min(smallest, agedScore(caller, member, channel));
                }
            }
            return smallest;
        }

        void rankChannels(int caller, int members) {
            for (int channel = 0; channel < CHANNELS; channel++) {
                channelRanks[channel] = netScore(caller, members, channel);
            }
        }

        int firstRanked(int channels) {
            int best = NONE;
            for (int channel = 0; channel < CHANNELS; channel++) {
                if (contains(channels, channel) && (best == NONE || channelRanks[channel] > channelRanks[best])) {
                    best = channel;
                }
            }
            return best;
        }

        // A call of one station prefers the channel that a net call of this one member would take.
        int preferredChannel(int caller, int members) {
            rankChannels(caller, members);
            return firstRanked(scanSets[caller]);
        }

        // ---- soundings and calls

        int emitSounding(int station, int channel) {
            now += longestScan(ALL_STATIONS);
            int decoders = 0;
            for (int other = 0; other < STATIONS; other++) {
                if (other != station && hears(other, channel)
                        && transmit(SOUND, station, other, TO_EVERYONE, channel)) {
                    decoders |= 1 << other;
                }
            }
            return decoders;
        }

        int callOne(int caller, int called) {
            // Ranked once, since the attempts themselves take time and store scores.
            rankChannels(caller, 1 << called);
            callAttempts = 0;
            int untried = scanSets[caller];
            for (int i = 0; i < CHANNELS && untried != 0; i++) {
                int channel = firstRanked(untried);
                untried &= ~(1 << channel);
                callAttempts++;
                callChannel = channel;
                if (shakeHands(caller, called, channel)) {
                    joinLink((1 << caller) | (1 << called), channel);
                    return channel;
                }
            }
            return NONE;
        }

        boolean shakeHands(int caller, int called, int channel) {
            now += Integer.bitCount(scanSets[called]);
            if (!hears(called, channel) || !transmit(CALL, caller, called, called, channel)) {
                return false;
            }
            now++;
            if (!transmit(RESPONSE, called, caller, caller, channel)) {
                return false;
            }
            now++;
            return transmit(ACKNOWLEDGE, caller, called, called, channel);
        }

        int callMany(int caller, int members) {
            int channel = preferredChannel(caller, members);
            callAttempts = 1;
            callChannel = channel;
            now += longestScan(members);
            int joining = 0;
            for (int member = 0; member < STATIONS; member++) {
                if (contains(members, member) && answersNetCall(caller, member, channel)) {
                    joining |= 1 << member;
                }
            }
            now++;
            int joined = 0;
            for (int member = 0; member < STATIONS; member++) {
                if (contains(joining, member) && transmit(ACKNOWLEDGE, caller, member, TO_EVERYONE, channel)) {
                    joined |= 1 << member;
                }
            }
            if (joined != 0) {
                joinLink(joined | (1 << caller), channel);
            }
            return joined;
        }

        boolean answersNetCall(int caller, int member, int channel) {
            if (!hears(member, channel) || !transmit(CALL, caller, member, TO_EVERYONE, channel)) {
                return false;
            }
            now++;
            return transmit(RESPONSE, member, caller, caller, channel);
        }

        // ---- links

        void joinLink(int stations, int channel) {
            for (int station = 0; station < STATIONS; station++) {
                if (contains(stations, station)) {
                    linkSets[station] = stations;
                    linkChannels[station] = channel;
                }
            }
        }

        void dropLink(int station) {
            linkSets[station] = 0;
            linkChannels[station] = NONE;
        }

        int leaveLink(int leaving) {
            int remaining = linkSets[leaving] & ~(1 << leaving);
            boolean ends = Integer.bitCount(remaining) < 2;
            dropLink(leaving);
            for (int station = 0; station < STATIONS; station++) {
                if (contains(remaining, station)) {
                    if (ends) {
                        dropLink(station);
                    } else {
                        linkSets[station] = remaining;
                    }
                }
            }
            return ends ? 0 : remaining;
        }

        // ---- digest

        long mixCounters(long start) {
            long hash = mix(start, now);
            hash = mix(hash, ageing);
            hash = mix(hash, noise);
            hash = mix(hash, wordsSent);
            hash = mix(hash, wordsDecoded);
            hash = mix(hash, callAttempts);
            hash = mix(hash, callChannel);
            hash = mix(hash, wordUnanimous);
            return mix(hash, wordVoted);
        }

        long mixStations(long start) {
            long hash = start;
            for (int station = 0; station < STATIONS; station++) {
                hash = mix(hash, scanSets[station]);
                hash = mix(hash, linkSets[station]);
                hash = mix(hash, linkChannels[station]);
            }
            return hash;
        }

        long mixScores(long start) {
            long hash = start;
            for (int station = 0; station < STATIONS; station++) {
                for (int other = 0; other < STATIONS; other++) {
                    for (int channel = 0; channel < CHANNELS && other != station; channel++) {
                        hash = mix(hash, scores[cell(station, other, channel)]);
                        hash = mix(hash, agedScore(station, other, channel));
                    }
                }
            }
            return hash;
        }
    }
}
