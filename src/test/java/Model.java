import java.util.ArrayDeque;
import java.util.ArrayList;
import java.util.Arrays;
import java.util.Collections;
import java.util.Comparator;
import java.util.List;
import java.math.BigInteger;

/**
 * The document once more, frame by frame and with no thought of speed or room, to compare
 * PassLink with. It shares no code with it: passes are painted on a time line, contacts keep
 * a log of single frames, and setups are cut into lists of tokens ahead.
 */
final class Model {
    private static final int HORIZON = 102000;

    private static final class Station {
        int longitude, reach, length, phase, rate, loss;
        int contacts, minutes, sent, received, foreign;
        /** For each minute the end of the pass that it belongs to, or -1. */
        int[] line;
    }

    private static final class Rec {
        int size, priority, added, delivered = -1, released = -1;
        int[] state;
        int[] last;
        boolean[] archive;
    }

    private record Shot(int record, int frame, boolean received) {
    }

    private static final class Talk {
        int number, station, begin, end = -1;
        boolean got, givenUp;
        List<Shot> shots = new ArrayList<>();
    }

    private record Pass(int station, int orbit, int begin, int end) {
    }

    private static final class Wrong extends Exception {
        private static final long serialVersionUID = 1;
        final int code, at;

        Wrong(int code, int at) {
            this.code = code;
            this.at = at;
        }
    }

    private record Token(char kind, String text, int at) {
    }

    private static final class World {
        int period = 90, shift = 24, node = 0;
        int groundDelay = 60, patience = 1000, limit = 30, bonus = 5, memory = 300, policy = 0;
        long seed = 1;
        int time = 0, talks = 0, handovers = 0;
        int sent, lost, duplicates, reports, givenUp;
        List<Station> stations = new ArrayList<>();
        List<Rec> recs = new ArrayList<>();
        ArrayDeque<Talk> kept = new ArrayDeque<>();
        Talk present = null;

        World copy() {
            World w = new World();
            w.period = period; w.shift = shift; w.node = node;
            w.groundDelay = groundDelay; w.patience = patience; w.limit = limit; w.bonus = bonus;
            w.memory = memory; w.policy = policy; w.seed = seed; w.time = time; w.talks = talks;
            w.handovers = handovers; w.sent = sent; w.lost = lost; w.duplicates = duplicates;
            w.reports = reports; w.givenUp = givenUp;
            for (Station s : stations) {
                Station c = new Station();
                c.longitude = s.longitude; c.reach = s.reach; c.length = s.length; c.phase = s.phase;
                c.rate = s.rate; c.loss = s.loss; c.contacts = s.contacts; c.minutes = s.minutes;
                c.sent = s.sent; c.received = s.received; c.foreign = s.foreign; c.line = s.line;
                w.stations.add(c);
            }
            for (Rec r : recs) {
                Rec c = new Rec();
                c.size = r.size; c.priority = r.priority; c.added = r.added;
                c.delivered = r.delivered; c.released = r.released;
                c.state = r.state.clone(); c.last = r.last.clone(); c.archive = r.archive.clone();
                w.recs.add(c);
            }
            for (Talk t : kept) {
                Talk c = new Talk();
                c.number = t.number; c.station = t.station; c.begin = t.begin; c.end = t.end;
                c.got = t.got; c.givenUp = t.givenUp; c.shots = new ArrayList<>(t.shots);
                w.kept.add(c);
                if (t == present) {
                    w.present = c;
                }
            }
            return w;
        }

        Pass pass(int number, int orbit) {
            Station s = stations.get(number);
            int longitude = BigInteger.valueOf(node).add(BigInteger.valueOf(orbit).multiply(BigInteger.valueOf(shift)))
                    .mod(BigInteger.valueOf(360)).intValue();
            int d = 0;
            while ((longitude + d) % 360 != s.longitude && (longitude - d + 360) % 360 != s.longitude) {
                d++;
            }
            if (d > s.reach) {
                return null;
            }
            int product = s.length * (s.reach + 1 - d);
            int minutes = product / (s.reach + 1) + (product % (s.reach + 1) == 0 ? 0 : 1);
            int begin = orbit * period + s.phase;
            return new Pass(number, orbit, begin, begin + minutes);
        }

        void paint() {
            for (int number = 0; number < stations.size(); number++) {
                int[] line = new int[HORIZON];
                Arrays.fill(line, -1);
                for (int orbit = 0; orbit * period < HORIZON; orbit++) {
                    Pass pass = pass(number, orbit);
                    for (int t = pass == null ? HORIZON : pass.begin(); t < HORIZON && t < pass.end(); t++) {
                        line[t] = pass.end();
                    }
                }
                stations.get(number).line = line;
            }
        }

        List<Pass> table(int from) {
            List<Pass> table = new ArrayList<>();
            for (int number = 0; number < stations.size(); number++) {
                for (int orbit = 0; orbit < 1000; orbit++) {
                    Pass pass = pass(number, orbit);
                    if (pass != null && pass.begin() >= from) {
                        table.add(pass);
                    }
                }
            }
            table.sort(Comparator.comparingInt(Pass::begin).thenComparingInt(Pass::station));
            return table;
        }

        boolean visible(int number, int t) {
            return stations.get(number).line[t] >= 0;
        }

        boolean anyVisible(int t) {
            for (int number = 0; number < stations.size(); number++) {
                if (visible(number, t)) {
                    return true;
                }
            }
            return false;
        }

        int choice(int t, int from) {
            if (policy == 0 && from >= 0 && visible(from, t)) {
                return from;
            }
            int last = -1;
            for (Station s : stations) {
                last = Math.max(last, s.line[t]);
            }
            if (last == -1) {
                return -1;
            }
            if (from >= 0 && stations.get(from).line[t] == last) {
                return from;
            }
            for (int number = 0; number < stations.size(); number++) {
                if (stations.get(number).line[t] == last) {
                    return number;
                }
            }
            throw new AssertionError();
        }

        int urgency(Rec r) {
            return r.priority + (time - r.added <= limit ? bonus : 0);
        }

        int next() {
            List<Rec> able = new ArrayList<>();
            for (Rec r : recs) {
                for (int s : r.state) {
                    if (s == 0 && !able.contains(r)) {
                        able.add(r);
                    }
                }
            }
            if (able.isEmpty()) {
                return -1;
            }
            able.sort(Comparator.comparingInt((Rec r) -> -urgency(r)).thenComparingInt(r -> r.added)
                    .thenComparingInt(recs::indexOf));
            return recs.indexOf(able.get(0));
        }

        int inUse() {
            int sum = 0;
            for (Rec r : recs) {
                sum += r.released < 0 ? r.size : 0;
            }
            return sum;
        }

        int add(int size, int priority) {
            Rec r = new Rec();
            r.size = size;
            r.priority = priority;
            r.added = time;
            r.state = new int[size];
            r.last = new int[size];
            Arrays.fill(r.last, -1);
            r.archive = new boolean[size];
            recs.add(r);
            return recs.size() - 1;
        }

        int add(int[] v) {
            Station s = new Station();
            s.longitude = v[0]; s.reach = v[1]; s.length = v[2]; s.phase = v[3]; s.rate = v[4]; s.loss = v[5];
            stations.add(s);
            paint();
            return stations.size() - 1;
        }

        int draw(int m) {
            seed = BigInteger.valueOf(seed).multiply(BigInteger.valueOf(1103515245)).add(BigInteger.valueOf(12345))
                    .mod(BigInteger.valueOf(2147483648L)).longValueExact();
            return (int) (seed / 65536 % m);
        }

        void again(Talk talk, boolean lostOnly) {
            for (Shot shot : talk.shots) {
                Rec r = recs.get(shot.record());
                if (!(lostOnly && shot.received()) && r.state[shot.frame()] == 1
                        && r.last[shot.frame()] == talk.number) {
                    r.state[shot.frame()] = 0;
                }
            }
        }

        void minute() {
            int chosen = choice(time, present == null ? -1 : present.station);
            boolean ended = false;
            if (present != null && present.station != chosen) {
                present.end = time;
                present = null;
                ended = true;
            }
            if (chosen >= 0 && present == null) {
                begin(chosen);
                handovers += ended ? 1 : 0;
            }
            if (present != null) {
                Station s = stations.get(present.station);
                s.minutes++;
                for (int n = 0; n < s.rate; n++) {
                    send(s);
                }
            }
            time++;
        }

        void begin(int chosen) {
            if (kept.size() == 60) {
                again(kept.removeFirst(), false);
            }
            Station here = stations.get(chosen);
            here.contacts++;
            for (Talk talk : kept) {
                if (!talk.got && (talk.station == chosen || time - talk.end >= groundDelay)) {
                    talk.got = true;
                    reports++;
                    here.foreign += talk.station == chosen ? 0 : 1;
                    for (Shot shot : talk.shots) {
                        if (shot.received()) {
                            recs.get(shot.record()).state[shot.frame()] = 2;
                        }
                    }
                    again(talk, true);
                }
            }
            for (Talk talk : kept) {
                if (!talk.got && !talk.givenUp && time - talk.end >= patience) {
                    talk.givenUp = true;
                    givenUp++;
                    again(talk, false);
                }
            }
            for (Rec r : recs) {
                if (r.released < 0 && Arrays.stream(r.state).allMatch(s -> s == 2)) {
                    r.released = time;
                }
            }
            present = new Talk();
            present.number = talks++;
            present.station = chosen;
            present.begin = time;
            kept.addLast(present);
        }

        void send(Station s) {
            int number = next();
            if (number < 0) {
                return;
            }
            Rec r = recs.get(number);
            int frame = 0;
            while (r.state[frame] != 0) {
                frame++;
            }
            r.state[frame] = 1;
            r.last[frame] = present.number;
            sent++;
            s.sent++;
            boolean received = draw(100) >= s.loss;
            present.shots.add(new Shot(number, frame, received));
            if (!received) {
                lost++;
                return;
            }
            s.received++;
            if (r.archive[frame]) {
                duplicates++;
            }
            r.archive[frame] = true;
            boolean all = true;
            for (boolean there : r.archive) {
                all &= there;
            }
            if (all && r.delivered < 0) {
                r.delivered = time;
            }
        }

        int archived() {
            int sum = 0;
            for (Rec r : recs) {
                for (boolean there : r.archive) {
                    sum += there ? 1 : 0;
                }
            }
            return sum;
        }

        List<Integer> delays() {
            List<Integer> delays = new ArrayList<>();
            for (Rec r : recs) {
                if (r.delivered >= 0) {
                    delays.add(r.delivered - r.added);
                }
            }
            return delays;
        }
    }

    private World w = new World();
    private final World[] slots = new World[2];
    private String text = "";
    private int error = 0, errorAt = -1;

    private static void range(int value, int low, int high) {
        if (value < low || value > high) {
            throw new IllegalArgumentException();
        }
    }

    private static void index(int value, int count) {
        if (value < 0 || value >= count) {
            throw new IndexOutOfBoundsException();
        }
    }

    private Rec rec(int record) {
        index(record, w.recs.size());
        return w.recs.get(record);
    }

    private Station station(int station) {
        index(station, w.stations.size());
        return w.stations.get(station);
    }

    private Talk talk(int contact) {
        for (Talk t : w.kept) {
            if (t.number == contact) {
                return t;
            }
        }
        throw new IndexOutOfBoundsException();
    }

    int setOrbit(int period, int shift, int node) {
        range(period, 60, 200);
        range(shift, 0, 359);
        range(node, 0, 359);
        int old = w.period;
        w.period = period;
        w.shift = shift;
        w.node = node;
        w.paint();
        return old;
    }

    int addStation(int a, int b, int c, int d, int e, int f) {
        range(a, 0, 359);
        range(b, 0, 90);
        range(c, 1, 30);
        range(d, 0, 59);
        range(e, 1, 20);
        range(f, 0, 99);
        if (w.stations.size() == 4) {
            throw new IllegalStateException();
        }
        return w.add(new int[] {a, b, c, d, e, f});
    }

    int stationCount() {
        return w.stations.size();
    }

    int setLoss(int station, int loss) {
        Station s = station(station);
        range(loss, 0, 99);
        int old = s.loss;
        s.loss = loss;
        return old;
    }

    int setGroundDelay(int minutes) {
        range(minutes, 0, 999);
        int old = w.groundDelay;
        w.groundDelay = minutes;
        return old;
    }

    int setPatience(int minutes) {
        range(minutes, 1, 9999);
        int old = w.patience;
        w.patience = minutes;
        return old;
    }

    int setFresh(int limit, int bonus) {
        range(limit, 0, 999);
        range(bonus, 0, 9);
        int old = w.limit * 10 + w.bonus;
        w.limit = limit;
        w.bonus = bonus;
        return old;
    }

    int setMemory(int frames) {
        range(frames, 24, 960);
        if (w.inUse() > frames) {
            throw new IllegalStateException();
        }
        int old = w.memory;
        w.memory = frames;
        return old;
    }

    int setPolicy(int policy) {
        range(policy, 0, 1);
        int old = w.policy;
        w.policy = policy;
        return old;
    }

    void setSeed(int seed) {
        range(seed, 0, Integer.MAX_VALUE);
        w.seed = seed;
    }

    int passBegin(int station, int orbit) {
        station(station);
        range(orbit, 0, 999);
        Pass pass = w.pass(station, orbit);
        return pass == null ? -1 : pass.begin();
    }

    int passEnd(int station, int orbit) {
        station(station);
        range(orbit, 0, 999);
        Pass pass = w.pass(station, orbit);
        return pass == null ? -1 : pass.end();
    }

    boolean isVisible(int station, int time) {
        station(station);
        range(time, 0, 99999);
        return w.visible(station, time);
    }

    int passTable(int from, int line, int what) {
        range(from, 0, 99999);
        range(line, 0, 19);
        range(what, 0, 3);
        List<Pass> table = w.table(from);
        if (line >= table.size()) {
            return -1;
        }
        Pass pass = table.get(line);
        return new int[] {pass.station(), pass.begin(), pass.end(), pass.orbit()}[what];
    }

    int nextContact(int what) {
        range(what, 0, 2);
        World c = w.copy();
        int first = c.talks;
        for (int n = 0; n < 3000; n++) {
            c.minute();
        }
        if (c.talks == first) {
            return -1;
        }
        // The copy forgets contacts like every simulator, so the wanted one is watched for anew.
        World d = w.copy();
        while (d.talks == first) {
            d.minute();
        }
        Talk begun = d.kept.getLast();
        while (begun.end < 0 && d.time < w.time + 3000) {
            d.minute();
        }
        return new int[] {begun.station, begun.begin, begun.end < 0 ? w.time + 3000 : begun.end}[what];
    }

    int coverage(int station, int from, int minutes) {
        if (station != -1) {
            station(station);
        }
        range(from, 0, 99999);
        range(minutes, 1, 1440);
        int sum = 0;
        for (int t = from; t < from + minutes; t++) {
            sum += (station == -1 ? w.anyVisible(t) : w.visible(station, t)) ? 1 : 0;
        }
        return sum;
    }

    int longestGap(int from, int minutes) {
        range(from, 0, 99999);
        range(minutes, 1, 1440);
        int best = 0;
        int begin = from;
        for (int t = from; t <= from + minutes; t++) {
            if (t == from + minutes || w.anyVisible(t)) {
                best = Math.max(best, t - begin);
                begin = t + 1;
            }
        }
        return best;
    }

    int bestStation(int from, int minutes) {
        range(from, 0, 99999);
        range(minutes, 1, 1440);
        int best = -1;
        for (int number = w.stations.size() - 1; number >= 0; number--) {
            int value = w.stations.get(number).rate * coverage(number, from, minutes);
            int top = best < 0 ? 1 : w.stations.get(best).rate * coverage(best, from, minutes);
            if (value >= top) {
                best = number;
            }
        }
        return best;
    }

    int nextPass(int station, int from) {
        station(station);
        range(from, 0, 99999);
        for (Pass pass : w.table(from)) {
            if (pass.station() == station) {
                return pass.begin();
            }
        }
        return -1;
    }

    int passFrames(int station, int orbit) {
        station(station);
        range(orbit, 0, 999);
        Pass pass = w.pass(station, orbit);
        return pass == null ? 0 : (pass.end() - pass.begin()) * w.stations.get(station).rate;
    }

    int addRecord(int size, int priority) {
        range(size, 1, 24);
        range(priority, 0, 9);
        if (w.recs.size() == 40 || w.inUse() + size > w.memory) {
            throw new IllegalStateException();
        }
        return w.add(size, priority);
    }

    int recordCount() {
        return w.recs.size();
    }

    int setPriority(int record, int priority) {
        Rec r = rec(record);
        range(priority, 0, 9);
        int old = r.priority;
        r.priority = priority;
        return old;
    }

    int urgency(int record) {
        return w.urgency(rec(record));
    }

    int nextRecord() {
        return w.next();
    }

    int resumePoint(int record) {
        Rec r = rec(record);
        for (int frame = 0; frame < r.size; frame++) {
            if (r.state[frame] == 0) {
                return frame;
            }
        }
        return -1;
    }

    int frames(int record, int state) {
        Rec r = rec(record);
        range(state, 0, 3);
        int sum = 0;
        for (int frame = 0; frame < r.size; frame++) {
            boolean so = state == 3 ? r.archive[frame] : r.state[frame] == state;
            sum += so ? 1 << frame : 0;
        }
        return sum;
    }

    int sentIn(int record, int frame) {
        Rec r = rec(record);
        index(frame, r.size);
        return r.last[frame];
    }

    int deliveredAt(int record) {
        return rec(record).delivered;
    }

    int releasedAt(int record) {
        return rec(record).released;
    }

    int backlog(int priority) {
        range(priority, 0, 9);
        int sum = 0;
        for (int n = 0; n < w.recs.size(); n++) {
            sum += w.recs.get(n).priority >= priority ? Integer.bitCount(frames(n, 0)) : 0;
        }
        return sum;
    }

    int oldestRecord() {
        int best = -1;
        for (int n = w.recs.size() - 1; n >= 0; n--) {
            if (w.recs.get(n).released < 0 && (best < 0 || w.recs.get(n).added <= w.recs.get(best).added)) {
                best = n;
            }
        }
        return best;
    }

    int memoryInUse() {
        return w.inUse();
    }

    int time() {
        return w.time;
    }

    int advance(int minutes) {
        range(minutes, 1, 1440);
        if (w.time + minutes > 20000) {
            throw new IllegalStateException();
        }
        for (int n = 0; n < minutes; n++) {
            w.minute();
        }
        return w.time;
    }

    int contactCount() {
        return w.talks;
    }

    int presentStation() {
        return w.present == null ? -1 : w.present.station;
    }

    int contactStation(int contact) {
        return talk(contact).station;
    }

    int contactBegin(int contact) {
        return talk(contact).begin;
    }

    int contactEnd(int contact) {
        return talk(contact).end;
    }

    int reportState(int contact) {
        Talk t = talk(contact);
        return t.got ? 2 : t.givenUp ? 1 : 0;
    }

    int contactFrames(int contact, int record, boolean received) {
        Talk t = talk(contact);
        rec(record);
        int mask = 0;
        for (Shot shot : t.shots) {
            if (shot.record() == record && (shot.received() || !received)) {
                mask |= 1 << shot.frame();
            }
        }
        return mask;
    }

    int contactTotal(int contact, boolean received) {
        int sum = 0;
        for (Shot shot : talk(contact).shots) {
            sum += shot.received() || !received ? 1 : 0;
        }
        return sum;
    }

    int lastContact(int station) {
        station(station);
        int last = -1;
        for (Talk t : w.kept) {
            last = t.station == station ? t.number : last;
        }
        return last;
    }

    int figure(int what) {
        range(what, 0, 7);
        int delivered = w.delays().size();
        int released = 0;
        for (Rec r : w.recs) {
            released += r.released >= 0 ? 1 : 0;
        }
        return new int[] {w.sent, w.lost, w.duplicates, w.archived(), delivered, released, w.reports, w.givenUp}[what];
    }

    int stationFigure(int station, int what) {
        Station s = station(station);
        range(what, 0, 4);
        return new int[] {s.contacts, s.minutes, s.sent, s.received, s.foreign}[what];
    }

    int handovers() {
        return w.handovers;
    }

    private static int divided(int value, int by) {
        return value / BigInteger.valueOf(value).gcd(BigInteger.valueOf(by)).intValue();
    }

    private int sum() {
        return w.delays().stream().mapToInt(d -> d).sum();
    }

    int meanDelayNumerator() {
        return w.delays().isEmpty() ? 0 : divided(sum(), w.delays().size());
    }

    int meanDelayDenominator() {
        return w.delays().isEmpty() ? 1 : divided(w.delays().size(), sum());
    }

    int efficiencyNumerator() {
        return w.archived() == 0 ? 0 : divided(w.archived(), w.sent);
    }

    int efficiencyDenominator() {
        return w.archived() == 0 ? 1 : divided(w.sent, w.archived());
    }

    int medianDelay() {
        List<Integer> delays = w.delays();
        Collections.sort(delays);
        return delays.isEmpty() ? -1 : delays.get(delays.size() % 2 == 1 ? delays.size() / 2 : delays.size() / 2 - 1);
    }

    int slowestRecord() {
        if (w.delays().isEmpty()) {
            return -1;
        }
        int most = Collections.max(w.delays());
        int n = 0;
        while (w.recs.get(n).delivered < 0 || w.recs.get(n).delivered - w.recs.get(n).added != most) {
            n++;
        }
        return n;
    }

    int deliveryForecast(int record) {
        rec(record);
        World c = w.copy();
        c.stations.forEach(s -> s.loss = 0);
        for (int n = 0; n < 3000; n++) {
            c.minute();
        }
        return c.recs.get(record).delivered;
    }

    int bestPolicy(int minutes) {
        range(minutes, 1, 1440);
        int[] there = new int[2];
        for (int policy = 0; policy < 2; policy++) {
            World c = w.copy();
            c.policy = policy;
            for (int n = 0; n < minutes; n++) {
                c.minute();
            }
            there[policy] = c.archived();
        }
        return there[1] > there[0] ? 1 : 0;
    }

    int appendText(int four) {
        if (text.length() + 4 > 400) {
            throw new IllegalStateException();
        }
        for (int shift = 24; shift >= 0; shift -= 8) {
            text += (char) (four >>> shift & 255);
        }
        return text.length();
    }

    int truncateText(int length) {
        range(length, 0, text.length());
        text = text.substring(0, length);
        return length;
    }

    private static List<Token> tokens(String text) {
        List<Token> tokens = new ArrayList<>();
        int at = 0;
        while (at < text.length()) {
            String rest = text.substring(at);
            if (rest.matches("(?s)[ \n].*")) {
                at++;
                continue;
            }
            String word = rest.replaceFirst("(?s)^([a-z]+|[0-9]+|.).*", "$1");
            char kind = word.matches("[a-z]+") ? 'w' : word.matches("[0-9]+") ? 'n' : word.equals(";") ? ';' : '?';
            tokens.add(new Token(kind, word, at));
            at += word.length();
        }
        tokens.add(new Token('e', "", text.length()));
        return tokens;
    }

    private static int[] numbers(List<Token> tokens, int... ranges) throws Wrong {
        int[] values = new int[ranges.length / 2];
        for (int k = 0; k < values.length; k++) {
            Token token = tokens.remove(0);
            if (token.kind() != 'n') {
                throw new Wrong(1, token.at());
            }
            BigInteger value = new BigInteger(token.text());
            if (value.compareTo(BigInteger.valueOf(ranges[2 * k])) < 0
                    || value.compareTo(BigInteger.valueOf(ranges[2 * k + 1])) > 0) {
                throw new Wrong(2, token.at());
            }
            values[k] = value.intValueExact();
        }
        return values;
    }

    private static void statement(World f, List<Token> tokens) throws Wrong {
        Token head = tokens.remove(0);
        int[] v;
        switch (head.kind() == 'w' ? head.text() : "") {
            case "orbit" -> {
                v = numbers(tokens, 60, 200, 0, 359, 0, 359);
                f.period = v[0];
                f.shift = v[1];
                f.node = v[2];
                f.paint();
            }
            case "station" -> {
                if (f.stations.size() == 4) {
                    throw new Wrong(3, head.at());
                }
                f.add(numbers(tokens, 0, 359, 0, 90, 1, 30, 0, 59, 1, 20, 0, 99));
            }
            case "ground" -> f.groundDelay = numbers(tokens, 0, 999)[0];
            case "patience" -> f.patience = numbers(tokens, 1, 9999)[0];
            case "fresh" -> {
                v = numbers(tokens, 0, 999, 0, 9);
                f.limit = v[0];
                f.bonus = v[1];
            }
            case "memory" -> {
                int at = tokens.get(0).at();
                v = numbers(tokens, 24, 960);
                if (v[0] < f.inUse()) {
                    throw new Wrong(3, at);
                }
                f.memory = v[0];
            }
            case "policy" -> {
                Token token = tokens.remove(0);
                if (!token.text().equals("stay") && !token.text().equals("longest")) {
                    throw new Wrong(1, token.at());
                }
                f.policy = token.text().equals("stay") ? 0 : 1;
            }
            case "record" -> {
                if (f.recs.size() == 40) {
                    throw new Wrong(3, head.at());
                }
                int at = tokens.get(0).at();
                int size = numbers(tokens, 1, 24)[0];
                if (f.inUse() + size > f.memory) {
                    throw new Wrong(3, at);
                }
                f.add(size, numbers(tokens, 0, 9)[0]);
            }
            default -> throw new Wrong(1, head.at());
        }
    }

    int load() {
        List<Token> tokens = tokens(text);
        text = "";
        error = 0;
        errorAt = -1;
        World fresh = new World();
        int count = 0;
        try {
            while (tokens.get(0).kind() != 'e') {
                statement(fresh, tokens);
                Token token = tokens.remove(0);
                if (token.kind() != ';') {
                    throw new Wrong(1, token.at());
                }
                count++;
            }
        } catch (Wrong e) {
            error = e.code;
            errorAt = e.at;
            return -1;
        }
        w = fresh;
        return count;
    }

    int errorCode() {
        return error;
    }

    int errorPosition() {
        return errorAt;
    }

    void save(int slot) {
        range(slot, 0, 1);
        slots[slot] = w.copy();
    }

    void restore(int slot) {
        range(slot, 0, 1);
        if (slots[slot] == null) {
            throw new IllegalStateException();
        }
        w = slots[slot].copy();
    }
}
