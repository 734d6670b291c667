import java.util.ArrayList;
import java.util.List;
import java.util.TreeSet;

/**
 * The document again, as literally as it can be written: slot for slot, copy for copy, bit for bit.
 * It knows which ways its calls went, so that a test can tell whether its runs went all of them.
 */
final class ReferenceModel {
    private static final class State implements Cloneable {
        long time = 0;
        long ageing = 10;
        long x = 1;
        long transmitted = 0;
        long decoded = 0;
        long attempts = 0;
        long lastChannel = -1;
        long lastUnanimous = -1;
        long lastVoted = -1;
        List<TreeSet<Integer>> scans = new ArrayList<>();
        List<TreeSet<Integer>> links = new ArrayList<>();
        int[] linkChannels = {-1, -1, -1, -1, -1};
        long[][][] quality = new long[5][5][8];
        long[][][] score = new long[5][5][8];
        long[][][] measured = new long[5][5][8];

        State copy() {
            try {
                State s = (State) clone();
                s.scans = copy(scans);
                s.links = copy(links);
                s.linkChannels = linkChannels.clone();
                s.quality = copy(quality);
                s.score = copy(score);
                s.measured = copy(measured);
                return s;
            } catch (CloneNotSupportedException e) {
                throw new IllegalStateException(e);
            }
        }

        private static List<TreeSet<Integer>> copy(List<TreeSet<Integer>> sets) {
            List<TreeSet<Integer>> result = new ArrayList<>();
            for (TreeSet<Integer> set : sets) {
                result.add(new TreeSet<>(set));
            }
            return result;
        }

        private static long[][][] copy(long[][][] cube) {
            long[][][] result = new long[5][5][];
            for (int i = 0; i < 5; i++) {
                for (int j = 0; j < 5; j++) {
                    result[i][j] = cube[i][j].clone();
                }
            }
            return result;
        }
    }

    /** The ways that calls went. */
    final TreeSet<String> ways = new TreeSet<>();

    private State s = new State();
    private final List<State> stack = new ArrayList<>();
    private long invalid = 0;
    private long rejected = 0;

    ReferenceModel() {
        for (int i = 0; i < 5; i++) {
            s.scans.add(setOf(255));
            s.links.add(new TreeSet<>());
            for (int j = 0; j < 5; j++) {
                for (int c = 0; c < 8; c++) {
                    s.quality[i][j][c] = 15;
                    s.score[i][j][c] = -1;
                }
            }
        }
    }

    private static TreeSet<Integer> setOf(int mask) {
        TreeSet<Integer> set = new TreeSet<>();
        for (int i = 0; i < 32; i++) {
            if ((mask >>> i) % 2 != 0) {
                set.add(i);
            }
        }
        return set;
    }

    private static long maskOf(TreeSet<Integer> set) {
        long mask = 0;
        for (int element : set) {
            mask += Math.round(Math.pow(2, element));
        }
        return mask;
    }

    private static boolean out(long value, long low, long high) {
        return value < low || value > high;
    }

    private static boolean badPair(int a, int b) {
        return out(a, 0, 4) || out(b, 0, 4) || a == b;
    }

    private static boolean badNet(int caller, int members) {
        return out(caller, 0, 4) || out(members, 1, 31) || setOf(members).contains(caller);
    }

    private long invalid() {
        invalid++;
        return -2;
    }

    private long rejected() {
        rejected++;
        return -3;
    }

    private void save() {
        stack.add(s.copy());
        while (stack.size() > 4) {
            stack.remove(0);
            ways.add("an old state dropped");
        }
    }

    private boolean isLinked(int station) {
        return !s.links.get(station).isEmpty();
    }

    private int listensAt(int station, long t) {
        List<Integer> channels = new ArrayList<>(s.scans.get(station));
        return channels.get((int) (t % channels.size()));
    }

    private long draw() {
        s.x = (s.x * 1103515245L + 12345L) % 2147483648L;
        return s.x / 65536 % 31;
    }

    private boolean send(int type, int from, int to, boolean all, int channel) {
        long word = 65536L * type + 256L * (all ? 255 : to) + from;
        int[][] bits = new int[3][24];
        for (int copy = 0; copy < 3; copy++) {
            for (int bit = 0; bit < 24; bit++) {
                int sent = (int) (word / Math.round(Math.pow(2, bit)) % 2);
                long d = draw();
                if (2 * d == 30 + s.quality[from][to][channel]) {
                    ways.add("a draw just at the edge");
                }
                bits[copy][bit] = 2 * d > 30 + s.quality[from][to][channel] ? 1 - sent : sent;
            }
        }
        long voted = 0;
        int unanimous = 0;
        for (int bit = 0; bit < 24; bit++) {
            int ones = bits[0][bit] + bits[1][bit] + bits[2][bit];
            if (ones >= 2) {
                voted += Math.round(Math.pow(2, bit));
            }
            if (ones == 0 || ones == 3) {
                unanimous++;
            }
        }
        s.lastVoted = voted;
        s.lastUnanimous = unanimous;
        s.transmitted++;
        if (voted != word) {
            return false;
        }
        s.decoded++;
        s.score[to][from][channel] = unanimous * 30 / 24;
        s.measured[to][from][channel] = s.time;
        if (unanimous < 24) {
            ways.add("decoded with a vote that is not unanimous");
        }
        return true;
    }

    long setScan(int station, int channels) {
        if (out(station, 0, 4) || out(channels, 1, 255)) {
            return invalid();
        }
        save();
        long previous = maskOf(s.scans.get(station));
        s.scans.set(station, setOf(channels));
        return previous;
    }

    long setQuality(int station, int other, int channel, int quality) {
        if (badPair(station, other) || out(channel, 0, 7) || out(quality, 0, 30)) {
            return invalid();
        }
        save();
        long previous = s.quality[station][other][channel];
        s.quality[station][other][channel] = quality;
        s.quality[other][station][channel] = quality;
        return previous;
    }

    long setAgeing(int slots) {
        if (out(slots, 1, 99)) {
            return invalid();
        }
        save();
        long previous = s.ageing;
        s.ageing = slots;
        return previous;
    }

    long setNoise(int state) {
        if (state < 0) {
            return invalid();
        }
        save();
        s.x = state;
        return s.time;
    }

    long pass(int slots) {
        if (out(slots, 1, 1000)) {
            return invalid();
        }
        save();
        s.time += slots;
        return s.time;
    }

    long sound(int station, int channel) {
        if (out(station, 0, 4) || out(channel, 0, 7)) {
            return invalid();
        }
        if (isLinked(station)) {
            return rejected();
        }
        save();
        int slots = 0;
        for (TreeSet<Integer> scan : s.scans) {
            slots = Math.max(slots, scan.size());
        }
        TreeSet<Integer> hearing = new TreeSet<>();
        for (int other = 0; other < 5; other++) {
            for (long t = s.time; t < s.time + slots; t++) {
                if (other != station && !isLinked(other) && listensAt(other, t) == channel) {
                    hearing.add(other);
                }
            }
        }
        s.time += slots;
        TreeSet<Integer> decoding = new TreeSet<>();
        for (int other : hearing) {
            if (send(1, station, other, true, channel)) {
                decoding.add(other);
            }
        }
        ways.add("sound decoded by " + decoding.size());
        return maskOf(decoding);
    }

    long call(int caller, int called) {
        if (badPair(caller, called)) {
            return invalid();
        }
        if (isLinked(caller) || isLinked(called)) {
            return rejected();
        }
        save();
        s.attempts = 0;
        for (int channel : callOrder(caller, called)) {
            s.attempts++;
            s.lastChannel = channel;
            String end = attempt(caller, called, channel);
            ways.add("call: " + end + " in attempt " + (s.attempts == 1 ? "1" : "2 or later"));
            if (end.equals("success")) {
                TreeSet<Integer> both = new TreeSet<>(List.of(caller, called));
                join(both, channel);
                return channel;
            }
        }
        return -1;
    }

    private List<Integer> callOrder(int caller, int called) {
        List<Integer> order = new ArrayList<>(s.scans.get(caller));
        // The sort is stable and the set ascends, so the lower channel of equal ones stays first.
        order.sort((a, b) -> Long.compare(aged(caller, called, b), aged(caller, called, a)));
        return order;
    }

    private String attempt(int caller, int called, int channel) {
        s.time += s.scans.get(called).size();
        if (!s.scans.get(called).contains(channel)) {
            return "not scanned";
        }
        if (!send(2, caller, called, false, channel)) {
            return "no CALL";
        }
        s.time += 1;
        if (!send(3, called, caller, false, channel)) {
            return "no RESPONSE";
        }
        s.time += 1;
        if (!send(4, caller, called, false, channel)) {
            return "no ACKNOWLEDGE";
        }
        return "success";
    }

    private void join(TreeSet<Integer> stations, int channel) {
        for (int station : stations) {
            s.links.set(station, new TreeSet<>(stations));
            s.linkChannels[station] = channel;
        }
    }

    private long aged(int station, int other, int channel) {
        if (s.score[station][other][channel] < 0) {
            return -1;
        }
        long age = (s.time - s.measured[station][other][channel]) / s.ageing;
        return Math.max(0, s.score[station][other][channel] - age);
    }

    private int netChoice(int caller, int members) {
        int best = -1;
        long bestScore = -2;
        for (int channel : s.scans.get(caller)) {
            long smallest = 99;
            for (int member : setOf(members)) {
                smallest = Math.min(smallest, aged(caller, member, channel));
            }
            if (smallest > bestScore) {
                bestScore = smallest;
                best = channel;
            }
        }
        return best;
    }

    long netCall(int caller, int members) {
        if (badNet(caller, members)) {
            return invalid();
        }
        if (isLinked(caller)) {
            return rejected();
        }
        save();
        int channel = netChoice(caller, members);
        s.attempts = 1;
        s.lastChannel = channel;
        int slots = 0;
        for (int member : setOf(members)) {
            slots = Math.max(slots, s.scans.get(member).size());
        }
        s.time += slots;
        TreeSet<Integer> taking = new TreeSet<>();
        for (int member : setOf(members)) {
            if (!s.scans.get(member).contains(channel)) {
                ways.add("net: not scanned");
            } else if (isLinked(member)) {
                ways.add("net: member linked");
            } else if (!send(2, caller, member, true, channel)) {
                ways.add("net: no CALL");
            } else {
                s.time += 1;
                if (send(3, member, caller, false, channel)) {
                    taking.add(member);
                } else {
                    ways.add("net: no RESPONSE");
                }
            }
        }
        s.time += 1;
        TreeSet<Integer> linked = new TreeSet<>();
        for (int member : taking) {
            if (send(4, caller, member, true, channel)) {
                linked.add(member);
            } else {
                ways.add("net: no ACKNOWLEDGE");
            }
        }
        ways.add("net: linked " + linked.size());
        if (!linked.isEmpty()) {
            TreeSet<Integer> all = new TreeSet<>(linked);
            all.add(caller);
            join(all, channel);
        }
        return maskOf(linked);
    }

    long hangUp(int station) {
        if (out(station, 0, 4)) {
            return invalid();
        }
        if (!isLinked(station)) {
            return rejected();
        }
        save();
        TreeSet<Integer> rest = new TreeSet<>(s.links.get(station));
        rest.remove(station);
        leave(station);
        if (rest.size() == 1) {
            leave(rest.first());
            rest.clear();
        }
        for (int other : rest) {
            s.links.set(other, new TreeSet<>(rest));
        }
        ways.add("hangUp: left " + rest.size());
        return maskOf(rest);
    }

    private void leave(int station) {
        s.links.set(station, new TreeSet<>());
        s.linkChannels[station] = -1;
    }

    long attempts() {
        return s.attempts;
    }

    long lastChannel() {
        return s.lastChannel;
    }

    long lastUnanimous() {
        return s.lastUnanimous;
    }

    long lastVoted() {
        return s.lastVoted;
    }

    long scan(int station) {
        return out(station, 0, 4) ? invalid() : maskOf(s.scans.get(station));
    }

    long listening(int station) {
        if (out(station, 0, 4)) {
            return invalid();
        }
        return isLinked(station) ? -1 : listensAt(station, s.time);
    }

    long quality(int station, int other, int channel) {
        return badPair(station, other) || out(channel, 0, 7) ? invalid() : s.quality[station][other][channel];
    }

    long score(int station, int other, int channel) {
        return badPair(station, other) || out(channel, 0, 7) ? invalid() : s.score[station][other][channel];
    }

    long effective(int station, int other, int channel) {
        return badPair(station, other) || out(channel, 0, 7) ? invalid() : aged(station, other, channel);
    }

    long bestChannel(int caller, int called) {
        return badPair(caller, called) ? invalid() : callOrder(caller, called).get(0);
    }

    long netChannel(int caller, int members) {
        return badNet(caller, members) ? invalid() : netChoice(caller, members);
    }

    long link(int station) {
        return out(station, 0, 4) ? invalid() : maskOf(s.links.get(station));
    }

    long linkChannel(int station) {
        return out(station, 0, 4) ? invalid() : s.linkChannels[station];
    }

    long time() {
        return s.time;
    }

    long transmitted() {
        return s.transmitted;
    }

    long decoded() {
        return s.decoded;
    }

    long vote(int a, int b, int c) {
        if (out(a, 0, 16777215) || out(b, 0, 16777215) || out(c, 0, 16777215)) {
            return invalid();
        }
        long word = 0;
        for (int bit = 0; bit < 24; bit++) {
            int ones = 0;
            for (int w : new int[] {a, b, c}) {
                ones += setOf(w).contains(bit) ? 1 : 0;
            }
            word += ones >= 2 ? Math.round(Math.pow(2, bit)) : 0;
        }
        return word;
    }

    long undo() {
        if (stack.isEmpty()) {
            return rejected();
        }
        s = stack.remove(stack.size() - 1);
        return stack.size();
    }

    long errorCount(int kind) {
        if (kind == 0) {
            return invalid;
        }
        return kind == 1 ? rejected : invalid();
    }

    long digest() {
        long h = 12164;
        long[] first = {invalid, rejected, stack.size(), s.time, s.ageing, s.x, s.transmitted, s.decoded, s.attempts,
            s.lastChannel, s.lastUnanimous, s.lastVoted};
        for (long v : first) {
            h = 31 * h + v;
        }
        for (int station = 0; station < 5; station++) {
            h = 31 * h + maskOf(s.scans.get(station));
            h = 31 * h + maskOf(s.links.get(station));
            h = 31 * h + s.linkChannels[station];
        }
        for (int station = 0; station < 5; station++) {
            for (int other = 0; other < 5; other++) {
                for (int channel = 0; channel < 8 && station != other; channel++) {
                    h = 31 * h + s.score[station][other][channel];
                    h = 31 * h + aged(station, other, channel);
                }
            }
        }
        return h;
    }
}
