import java.util.Arrays;

/** A simulator of a satellite that sends records to an archive on the ground. */
public final class PassLink {
    public static final int NONE = -1;

    private static final int MOST_STATIONS = 4;
    private static final int MOST_RECORDS = 40;
    private static final int MOST_CONTACTS = 60;
    private static final int MOST_BYTES = 400;
    private static final int MOST_LINES = 20;
    private static final int ORBITS = 1000;
    private static final int SLOTS = 2;

    private static final int LEAST_PERIOD = 60;
    private static final int MOST_PERIOD = 200;
    private static final int CIRCLE = 360;
    private static final int LAST_DEGREE = 359;
    private static final int MOST_REACH = 90;
    private static final int MOST_LENGTH = 30;
    private static final int LAST_PHASE = 59;
    private static final int MOST_RATE = 20;
    private static final int MOST_LOSS = 99;
    private static final int MOST_DELAY = 999;
    private static final int MOST_PATIENCE = 9999;
    private static final int MOST_FRESH = 999;
    private static final int MOST_BONUS = 9;
    private static final int LEAST_MEMORY = 24;
    private static final int MOST_MEMORY = 960;
    private static final int MOST_FRAMES = 24;
    private static final int MOST_PRIORITY = 9;

    private static final int GREATEST_SEED = 2147483647;

    private static final int LAST_TIME = 20000;
    private static final int LAST_PREDICTED = 99999;
    private static final int DAY = 1440;
    private static final int FORESIGHT = 3000;

    private static final int STAY = 0;
    private static final int LONGEST = 1;

    private static final int SENT = 0;
    private static final int LOST = 1;
    private static final int DUPLICATES = 2;
    private static final int ARCHIVED = 3;
    private static final int DELIVERED = 4;
    private static final int RELEASED = 5;
    private static final int REPORTS = 6;
    private static final int GIVEN_UP = 7;
    private static final int FIGURES = 8;

    private static final int CONTACTS_WITH = 0;
    private static final int MINUTES_WITH = 1;
    private static final int SENT_TO = 2;
    private static final int RECEIVED_BY = 3;
    private static final int FOREIGN_REPORTS = 4;
    private static final int STATION_FIGURES = 5;

    private static final int REPORT_AWAITED = 0;
    private static final int REPORT_GIVEN_UP = 1;
    private static final int REPORT_GOT = 2;

    private final Simulation live = new Simulation();
    private final SetupText text = new SetupText();
    private final Simulation[] saved = new Simulation[SLOTS];
    private final int[] delays = new int[MOST_RECORDS];
    /** Made by the first call that needs it, so that plain objects stay small. */
    private Simulation spare = null;

    public PassLink() {
    }

    // ---- orbit, stations and rules

    public int setOrbit(int period, int shift, int node) throws IllegalArgumentException {
        requireRange(period, LEAST_PERIOD, MOST_PERIOD);
        requireRange(shift, 0, LAST_DEGREE);
        requireRange(node, 0, LAST_DEGREE);
        int previous = live.sky.period;
        live.sky.placeOrbit(period, shift, node);
        return previous;
    }

    public int addStation(int longitude, int reach, int length, int phase, int rate, int loss)
            throws IllegalArgumentException, IllegalStateException {
        requireRange(longitude, 0, LAST_DEGREE);
        requireRange(reach, 0, MOST_REACH);
        requireRange(length, 1, MOST_LENGTH);
        requireRange(phase, 0, LAST_PHASE);
        requireRange(rate, 1, MOST_RATE);
        requireRange(loss, 0, MOST_LOSS);
        if (live.sky.isFull()) {
            throw new IllegalStateException("there are 4 stations");
        }
        return live.sky.admit(longitude, reach, length, phase, rate, loss);
    }

    public int stationCount() {
        return live.sky.count;
    }

    public int setLoss(int station, int loss) throws IndexOutOfBoundsException, IllegalArgumentException {
        requireStation(station);
        requireRange(loss, 0, MOST_LOSS);
        Station place = live.sky.stations[station];
        int previous = place.loss;
        place.loss = loss;
        return previous;
    }

    public int setGroundDelay(int minutes) throws IllegalArgumentException {
        requireRange(minutes, 0, MOST_DELAY);
        int previous = live.rules.groundDelay;
        live.rules.groundDelay = minutes;
        return previous;
    }

    public int setPatience(int minutes) throws IllegalArgumentException {
        requireRange(minutes, 1, MOST_PATIENCE);
        int previous = live.rules.patience;
        live.rules.patience = minutes;
        return previous;
    }

    public int setFresh(int limit, int bonus) throws IllegalArgumentException {
        requireRange(limit, 0, MOST_FRESH);
        requireRange(bonus, 0, MOST_BONUS);
        int previous = 10 * live.rules.freshLimit + live.rules.freshBonus;
        live.rules.freshLimit = limit;
        live.rules.freshBonus = bonus;
        return previous;
    }

    public int setMemory(int frames) throws IllegalArgumentException, IllegalStateException {
        requireRange(frames, LEAST_MEMORY, MOST_MEMORY);
        if (live.framesHeld() > frames) {
            throw new IllegalStateException("more frames are in use");
        }
        int previous = live.rules.memory;
        live.rules.memory = frames;
        return previous;
    }

    public int setPolicy(int policy) throws IllegalArgumentException {
        requireRange(policy, STAY, LONGEST);
        int previous = live.rules.policy;
        live.rules.policy = policy;
        return previous;
    }

    public void setSeed(int seed) throws IllegalArgumentException {
        requireRange(seed, 0, GREATEST_SEED);
        live.randomState = seed;
    }

    // ---- predictions

    public int passBegin(int station, int orbit) throws IndexOutOfBoundsException, IllegalArgumentException {
        requireStation(station);
        requireRange(orbit, 0, ORBITS - 1);
        Station place = live.sky.stations[station];
        return live.sky.minutesOfPass(place, orbit) == 0 ? NONE : live.sky.beginOfPass(place, orbit);
    }

    public int passEnd(int station, int orbit) throws IndexOutOfBoundsException, IllegalArgumentException {
        requireStation(station);
        requireRange(orbit, 0, ORBITS - 1);
        Station place = live.sky.stations[station];
        int minutes = live.sky.minutesOfPass(place, orbit);
        return minutes == 0 ? NONE : live.sky.beginOfPass(place, orbit) + minutes;
    }

    public boolean isVisible(int station, int time) throws IndexOutOfBoundsException, IllegalArgumentException {
        requireStation(station);
        requireRange(time, 0, LAST_PREDICTED);
        return live.sky.isUp(live.sky.stations[station], time);
    }

    public int passTable(int from, int line, int what) throws IllegalArgumentException {
        requireRange(from, 0, LAST_PREDICTED);
        requireRange(line, 0, MOST_LINES - 1);
        requireRange(what, 0, 3);
        return live.sky.tableLine(from, line, what);
    }

    public int nextContact(int what) throws IllegalArgumentException {
        requireRange(what, 0, 2);
        return live.foreseeContact(what);
    }

    public int coverage(int station, int from, int minutes)
            throws IndexOutOfBoundsException, IllegalArgumentException {
        if (station != NONE) {
            requireStation(station);
        }
        requireSpan(from, minutes);
        return station == NONE
                ? live.sky.minutesWithAny(from, minutes)
                : live.sky.minutesWith(live.sky.stations[station], from, minutes);
    }

    public int longestGap(int from, int minutes) throws IllegalArgumentException {
        requireSpan(from, minutes);
        return live.sky.longestSilence(from, minutes);
    }

    public int bestStation(int from, int minutes) throws IllegalArgumentException {
        requireSpan(from, minutes);
        return live.sky.richestStation(from, minutes);
    }

    public int nextPass(int station, int from) throws IndexOutOfBoundsException, IllegalArgumentException {
        requireStation(station);
        requireRange(from, 0, LAST_PREDICTED);
        return live.sky.beginOfNextPass(live.sky.stations[station], from);
    }

    public int passFrames(int station, int orbit) throws IndexOutOfBoundsException, IllegalArgumentException {
        requireStation(station);
        requireRange(orbit, 0, ORBITS - 1);
        Station place = live.sky.stations[station];
        return place.rate * live.sky.minutesOfPass(place, orbit);
    }

    // ---- records

    public int addRecord(int size, int priority) throws IllegalArgumentException, IllegalStateException {
        requireRange(size, 1, MOST_FRAMES);
        requireRange(priority, 0, MOST_PRIORITY);
        if (live.isFull() || !live.hasMemoryFor(size)) {
            throw new IllegalStateException("there are 40 records, or not enough memory");
        }
        return live.admit(size, priority);
    }

    public int recordCount() {
        return live.recordsSoFar;
    }

    public int setPriority(int record, int priority) throws IndexOutOfBoundsException, IllegalArgumentException {
        requireRecord(record);
        requireRange(priority, 0, MOST_PRIORITY);
        DataRecord item = live.records[record];
        int previous = item.priority;
        item.priority = priority;
        return previous;
    }

    public int urgency(int record) throws IndexOutOfBoundsException {
        requireRecord(record);
        return live.urgencyOf(live.records[record]);
    }

    public int nextRecord() {
        return live.mostUrgent();
    }

    public int resumePoint(int record) throws IndexOutOfBoundsException {
        requireRecord(record);
        return live.records[record].lowestToSend();
    }

    public int frames(int record, int state) throws IndexOutOfBoundsException, IllegalArgumentException {
        requireRecord(record);
        requireRange(state, 0, 3);
        DataRecord item = live.records[record];
        switch (state) {
            case 0:
                return item.toSend;
            case 1:
                return item.underWay;
            case 2:
                return item.acknowledged;
            default:
                return item.archived;
        }
    }

    public int sentIn(int record, int frame) throws IndexOutOfBoundsException {
        requireRecord(record);
        DataRecord item = live.records[record];
        if (outside(frame, 0, item.size - 1)) {
            throw new IndexOutOfBoundsException("no such frame");
        }
        return item.lastContacts[frame];
    }

    public int deliveredAt(int record) throws IndexOutOfBoundsException {
        requireRecord(record);
        return live.records[record].delivered;
    }

    public int releasedAt(int record) throws IndexOutOfBoundsException {
        requireRecord(record);
        return live.records[record].released;
    }

    public int backlog(int priority) throws IllegalArgumentException {
        requireRange(priority, 0, MOST_PRIORITY);
        return live.framesToSend(priority);
    }

    public int oldestRecord() {
        return live.oldestHeld();
    }

    public int memoryInUse() {
        return live.framesHeld();
    }

    // ---- time and contacts

    public int time() {
        return live.now;
    }

    public int advance(int minutes) throws IllegalArgumentException, IllegalStateException {
        requireRange(minutes, 1, DAY);
        if (live.now + minutes > LAST_TIME) {
            throw new IllegalStateException("the present time would be greater than 20000");
        }
        for (int passed = 0; passed < minutes; passed++) {
            live.passMinute();
        }
        return live.now;
    }

    public int contactCount() {
        return live.contactsSoFar;
    }

    public int presentStation() {
        return live.talkingTo();
    }

    public int contactStation(int contact) throws IndexOutOfBoundsException {
        requireContact(contact);
        return live.keptContact(contact).station;
    }

    public int contactBegin(int contact) throws IndexOutOfBoundsException {
        requireContact(contact);
        return live.keptContact(contact).begin;
    }

    public int contactEnd(int contact) throws IndexOutOfBoundsException {
        requireContact(contact);
        return live.keptContact(contact).end;
    }

    public int reportState(int contact) throws IndexOutOfBoundsException {
        requireContact(contact);
        return live.keptContact(contact).report;
    }

    public int contactFrames(int contact, int record, boolean received) throws IndexOutOfBoundsException {
        requireContact(contact);
        requireRecord(record);
        return live.keptContact(contact).row(received)[record];
    }

    public int contactTotal(int contact, boolean received) throws IndexOutOfBoundsException {
        requireContact(contact);
        return live.keptContact(contact).total(received);
    }

    public int lastContact(int station) throws IndexOutOfBoundsException {
        requireStation(station);
        return live.latestWith(station);
    }

    // ---- figures

    public int figure(int what) throws IllegalArgumentException {
        requireRange(what, 0, FIGURES - 1);
        return live.figures[what];
    }

    public int stationFigure(int station, int what) throws IndexOutOfBoundsException, IllegalArgumentException {
        requireStation(station);
        requireRange(what, 0, STATION_FIGURES - 1);
        return live.sky.stations[station].figures[what];
    }

    public int handovers() {
        return live.handoversSoFar;
    }

    public int meanDelayNumerator() {
        return reduced(live.sumOfDelays(), live.figures[DELIVERED]);
    }

    public int meanDelayDenominator() {
        int delivered = live.figures[DELIVERED];
        return delivered == 0 ? 1 : reduced(delivered, live.sumOfDelays());
    }

    public int efficiencyNumerator() {
        return reduced(live.figures[ARCHIVED], live.figures[SENT]);
    }

    public int efficiencyDenominator() {
        int archived = live.figures[ARCHIVED];
        return archived == 0 ? 1 : reduced(live.figures[SENT], archived);
    }

    public int medianDelay() {
        int count = live.sortDelays(delays);
        return count < 1 || count > delays.length ? NONE : delays[(count - 1) / 2];
    }

    public int slowestRecord() {
        return live.slowestDelivered();
    }

    // ---- trials: the simulator goes on as a copy; nothing changes

    public int deliveryForecast(int record) throws IndexOutOfBoundsException {
        requireRecord(record);
        Simulation trial = copyOfLive();
        trial.sky.loseNothing();
        DataRecord item = trial.records[record];
        for (int passed = 0; passed < FORESIGHT && item.delivered == NONE; passed++) {
            trial.passMinute();
        }
        return item.delivered;
    }

    public int bestPolicy(int minutes) throws IllegalArgumentException {
        requireRange(minutes, 1, DAY);
        return archivedBy(LONGEST, minutes) > archivedBy(STAY, minutes) ? LONGEST : STAY;
    }

    // ---- setup texts

    public int appendText(int fourBytes) throws IllegalStateException {
        if (!text.hasRoomForFour()) {
            throw new IllegalStateException("the text would be longer than 400 bytes");
        }
        text.appendFour(fourBytes);
        return text.length;
    }

    public int truncateText(int length) throws IllegalArgumentException {
        requireRange(length, 0, text.length);
        text.length = length;
        return length;
    }

    public int load() {
        Simulation target = spareSimulation();
        target.becomeNew();
        int statements = text.readSetup(target);
        text.length = 0;
        if (statements != NONE) {
            live.copyFrom(target);
        }
        return statements;
    }

    public int errorCode() {
        return text.error;
    }

    public int errorPosition() {
        return text.errorAt;
    }

    // ---- saved states

    public void save(int slot) throws IllegalArgumentException {
        requireRange(slot, 0, SLOTS - 1);
        Simulation kept = saved[slot];
        if (kept == null) {
            kept = new Simulation();
            saved[slot] = kept;
        }
        kept.copyFrom(live);
    }

    public void restore(int slot) throws IllegalArgumentException, IllegalStateException {
        requireRange(slot, 0, SLOTS - 1);
        Simulation kept = saved[slot];
        if (kept == null) {
            throw new IllegalStateException("nothing is saved there");
        }
        live.copyFrom(kept);
    }

    // ---- what the calls share

    private static boolean outside(int value, int low, int high) {
        return value < low || value > high;
    }

    private static void requireRange(int value, int low, int high) {
        if (outside(value, low, high)) {
            throw new IllegalArgumentException("an argument is out of range");
        }
    }

    private static void requireSpan(int from, int minutes) {
        requireRange(from, 0, LAST_PREDICTED);
        requireRange(minutes, 1, DAY);
    }

    private void requireStation(int station) {
        if (outside(station, 0, live.sky.count - 1)) {
            throw new IndexOutOfBoundsException("no such station");
        }
    }

    private void requireRecord(int record) {
        if (outside(record, 0, live.recordsSoFar - 1)) {
            throw new IndexOutOfBoundsException("no such record");
        }
    }

    private void requireContact(int contact) {
        if (!live.keeps(contact)) {
            throw new IndexOutOfBoundsException("no such contact, or it was forgotten");
        }
    }

    private Simulation spareSimulation() {
        if (spare == null) {
            spare = new Simulation();
        }
        return spare;
    }

    private Simulation copyOfLive() {
        Simulation copy = spareSimulation();
        copy.copyFrom(live);
        return copy;
    }

    private int archivedBy(int policy, int minutes) {
        Simulation trial = copyOfLive();
        trial.rules.policy = policy;
        for (int passed = 0; passed < minutes; passed++) {
            trial.passMinute();
        }
        return trial.figures[ARCHIVED];
    }

    /** The value divided by its greatest common divisor with the other; neither is negative. */
    private static int reduced(int value, int other) {
        int divisor = commonDivisor(value, other);
        return divisor < 1 ? 0 : value / divisor;
    }

    private static int commonDivisor(int first, int second) {
        int great = first;
        int small = second;
        // Euclid's steps over ints are fewer than fifty.
        for (int step = 0; step < 100 && small > 0; step++) {
            int rest = great % small;
            great = small;
            small = rest;
        }
        return great;
    }

    /** A ground station, with what has happened at it so far. */
    private static final class Station {
        int longitude;
        int reach;
        int length;
        int phase;
        int rate;
        int loss;
        final int[] figures = new int[STATION_FIGURES];

        void copyFrom(Station other) {
            longitude = other.longitude;
            reach = other.reach;
            length = other.length;
            phase = other.phase;
            rate = other.rate;
            loss = other.loss;
            System.arraycopy(other.figures, 0, figures, 0, STATION_FIGURES);
        }
    }

    /** The orbit and the stations: all that passes depend on. */
    private static final class Sky {
        int period;
        int shift;
        int node;
        int count;
        final Station[] stations = new Station[MOST_STATIONS];
        /** The stations in the order in which their passes of one orbit begin. */
        final int[] byPhase = new int[MOST_STATIONS];

        Sky() {
            for (int number = 0; number < MOST_STATIONS; number++) {
                stations[number] = new Station();
            }
        }

        void becomeNew() {
            period = 90;
            shift = 24;
            node = 0;
            count = 0;
        }

        void copyFrom(Sky other) {
            placeOrbit(other.period, other.shift, other.node);
            count = other.count;
            for (int number = 0; number < MOST_STATIONS; number++) {
                stations[number].copyFrom(other.stations[number]);
                byPhase[number] = other.byPhase[number];
            }
        }

        void placeOrbit(int newPeriod, int newShift, int newNode) {
            period = newPeriod;
            shift = newShift;
            node = newNode;
        }

        boolean isFull() {
            return count >= MOST_STATIONS;
        }

        int admit(int longitude, int reach, int length, int phase, int rate, int loss) {
            if (isFull()) {
                return NONE;
            }
            Station added = stations[count];
            added.longitude = longitude;
            added.reach = reach;
            added.length = length;
            added.phase = phase;
            added.rate = rate;
            added.loss = loss;
            Arrays.fill(added.figures, 0);
            insertByPhase(count, phase);
            count++;
            return count - 1;
        }

        private void insertByPhase(int number, int phase) {
            int place = number;
            while (place > 0 && stations[byPhase[place - 1]].phase > phase) {
                byPhase[place] = byPhase[place - 1];
                place--;
            }
            byPhase[place] = number;
        }

        void loseNothing() {
            for (int number = 0; number < count; number++) {
                stations[number].loss = 0;
            }
        }

        /** The orbit that is under way at a time; it is the test of the divisor, too. */
        private int orbitAt(int time) {
            return time < 0 || period < 1 ? NONE : time / period;
        }

        int beginOfPass(Station place, int orbit) {
            return orbit * period + place.phase;
        }

        /** How long the pass in an orbit lasts; 0 if there is none. */
        int minutesOfPass(Station place, int orbit) {
            int straight = Math.abs(place.longitude - (node + orbit * shift) % CIRCLE);
            int apart = Math.min(straight, CIRCLE - straight);
            int steps = place.reach + 1;
            if (steps < 1 || apart >= steps) {
                return 0;
            }
            return (place.length * (steps - apart) + steps - 1) / steps;
        }

        /** When the pass ends in which the station is visible in a minute; NONE if it is not. */
        int endOfPassAt(Station place, int minute) {
            // A phase and a length may reach into the next orbit, so the orbit
            // to look at is the one under way a phase ago.
            int orbit = orbitAt(minute - place.phase);
            if (orbit == NONE) {
                return NONE;
            }
            int begin = beginOfPass(place, orbit);
            if (minute - begin >= place.length) {
                return NONE;
            }
            int end = begin + minutesOfPass(place, orbit);
            return minute < end ? end : NONE;
        }

        boolean isUp(Station place, int minute) {
            return endOfPassAt(place, minute) != NONE;
        }

        boolean isAnyUp(int minute) {
            for (int number = 0; number < count; number++) {
                if (isUp(stations[number], minute)) {
                    return true;
                }
            }
            return false;
        }

        /** The station to talk to in a minute, coming from a station or NONE. */
        int choose(int minute, int present, int policy) {
            int chosen = NONE;
            int latestEnd = NONE;
            for (int number = 0; number < count; number++) {
                int end = endOfPassAt(stations[number], minute);
                if (end == NONE) {
                    continue;
                }
                if (policy == STAY && number == present) {
                    return number;
                }
                if (end > latestEnd || end == latestEnd && number == present) {
                    chosen = number;
                    latestEnd = end;
                }
            }
            return chosen;
        }

        int tableLine(int from, int line, int what) {
            int ahead = line;
            // Phases are shorter than every period, so orbits follow each other in the table.
            for (int orbit = orbitAt(from); orbit >= 0 && orbit < ORBITS; orbit++) {
                for (int rank = 0; rank < count; rank++) {
                    int number = byPhase[rank];
                    if (!isPassSince(stations[number], orbit, from)) {
                        continue;
                    }
                    if (ahead == 0) {
                        return tableEntry(number, orbit, what);
                    }
                    ahead--;
                }
            }
            return NONE;
        }

        private boolean isPassSince(Station place, int orbit, int from) {
            return beginOfPass(place, orbit) >= from && minutesOfPass(place, orbit) > 0;
        }

        private int tableEntry(int number, int orbit, int what) {
            int begin = beginOfPass(stations[number], orbit);
            switch (what) {
                case 0:
                    return number;
                case 1:
                    return begin;
                case 2:
                    return begin + minutesOfPass(stations[number], orbit);
                default:
                    return orbit;
            }
        }

        int beginOfNextPass(Station place, int from) {
            for (int orbit = orbitAt(from); orbit >= 0 && orbit < ORBITS; orbit++) {
                if (isPassSince(place, orbit, from)) {
                    return beginOfPass(place, orbit);
                }
            }
            return NONE;
        }

        int minutesWith(Station place, int from, int minutes) {
            int seen = 0;
            for (int minute = from; minute < from + minutes; minute++) {
                if (isUp(place, minute)) {
                    seen++;
                }
            }
            return seen;
        }

        int minutesWithAny(int from, int minutes) {
            int seen = 0;
            for (int minute = from; minute < from + minutes; minute++) {
                if (isAnyUp(minute)) {
                    seen++;
                }
            }
            return seen;
        }

        int longestSilence(int from, int minutes) {
            int longest = 0;
            int silent = 0;
            for (int minute = from; minute < from + minutes; minute++) {
                silent = isAnyUp(minute) ? 0 : silent + 1;
                longest = Math.max(longest, silent);
            }
            return longest;
        }

        int richestStation(int from, int minutes) {
            int richest = NONE;
            int most = 0;
            for (int number = 0; number < count; number++) {
                int product = stations[number].rate * minutesWith(stations[number], from, minutes);
                if (product > most) {
                    richest = number;
                    most = product;
                }
            }
            return richest;
        }
    }

    /** What can be set beside the orbit and the stations. */
    private static final class Rules {
        int groundDelay;
        int patience;
        int freshLimit;
        int freshBonus;
        int memory;
        int policy;

        void becomeNew() {
            groundDelay = 60;
            patience = 1000;
            freshLimit = 30;
            freshBonus = 5;
            memory = 300;
            policy = STAY;
        }

        void copyFrom(Rules other) {
            groundDelay = other.groundDelay;
            patience = other.patience;
            freshLimit = other.freshLimit;
            freshBonus = other.freshBonus;
            memory = other.memory;
            policy = other.policy;
        }
    }

    /** A record on board and what the archive has of it; sets of frames are bit masks. */
    private static final class DataRecord {
        int size;
        int priority;
        int added;
        int toSend;
        int underWay;
        int acknowledged;
        int archived;
        int delivered;
        int released;
        final int[] lastContacts = new int[MOST_FRAMES];

        void becomeNew(int newSize, int newPriority, int time) {
            size = newSize;
            priority = newPriority;
            added = time;
            toSend = everyFrame();
            underWay = 0;
            acknowledged = 0;
            archived = 0;
            delivered = NONE;
            released = NONE;
            Arrays.fill(lastContacts, NONE);
        }

        void copyFrom(DataRecord other) {
            size = other.size;
            priority = other.priority;
            added = other.added;
            toSend = other.toSend;
            underWay = other.underWay;
            acknowledged = other.acknowledged;
            archived = other.archived;
            delivered = other.delivered;
            released = other.released;
            System.arraycopy(other.lastContacts, 0, lastContacts, 0, MOST_FRAMES);
        }

        int everyFrame() {
            return (1 << size) - 1;
        }

        int delay() {
            return delivered - added;
        }

        int lowestToSend() {
            for (int frame = 0; frame < MOST_FRAMES; frame++) {
                if ((toSend & 1 << frame) != 0) {
                    return frame;
                }
            }
            return NONE;
        }

        void noteSent(int frame, int contact) {
            toSend &= ~(1 << frame);
            underWay |= 1 << frame;
            lastContacts[frame] = contact;
        }

        void acknowledge(int mask) {
            toSend &= ~mask;
            underWay &= ~mask;
            acknowledged |= mask;
        }

        /** A frame that was sent again later waits for the later contact's report. */
        void sendAgain(int mask, int contact) {
            int waiting = mask & underWay;
            for (int frame = 0; frame < MOST_FRAMES && waiting != 0; frame++) {
                if ((waiting & 1 << frame) != 0 && lastContacts[frame] == contact) {
                    underWay &= ~(1 << frame);
                    toSend |= 1 << frame;
                }
            }
        }
    }

    /** A contact; its rows hold a mask of frames for each record. */
    private static final class Contact {
        int number;
        int station;
        int begin;
        int end;
        int report;
        final int[] sent = new int[MOST_RECORDS];
        final int[] received = new int[MOST_RECORDS];

        void becomeNew(int newNumber, int newStation, int time) {
            number = newNumber;
            station = newStation;
            begin = time;
            end = NONE;
            report = REPORT_AWAITED;
            Arrays.fill(sent, 0);
            Arrays.fill(received, 0);
        }

        void copyFrom(Contact other) {
            number = other.number;
            station = other.station;
            begin = other.begin;
            end = other.end;
            report = other.report;
            System.arraycopy(other.sent, 0, sent, 0, MOST_RECORDS);
            System.arraycopy(other.received, 0, received, 0, MOST_RECORDS);
        }

        int[] row(boolean ofReceived) {
            return ofReceived ? received : sent;
        }

        int total(boolean ofReceived) {
            int[] masks = row(ofReceived);
            int sum = 0;
            for (int record = 0; record < MOST_RECORDS; record++) {
                sum += Integer.bitCount(masks[record]);
            }
            return sum;
        }

        boolean endedLongAgo(int time, int minutes) {
            return end != NONE && time - end >= minutes;
        }
    }

    /** Everything that a saved state holds, and the minutes that change it. */
    private static final class Simulation {
        final Sky sky = new Sky();
        final Rules rules = new Rules();
        final DataRecord[] records = new DataRecord[MOST_RECORDS];
        int recordsSoFar;
        /** The contact k stands at the place k modulo MOST_CONTACTS. */
        final Contact[] contacts = new Contact[MOST_CONTACTS];
        int contactsSoFar;
        final int[] figures = new int[FIGURES];
        int handoversSoFar;
        int now;
        int randomState;

        Simulation() {
            for (int number = 0; number < MOST_RECORDS; number++) {
                records[number] = new DataRecord();
            }
            for (int number = 0; number < MOST_CONTACTS; number++) {
                contacts[number] = new Contact();
            }
            becomeNew();
        }

        /** Stations, records and contacts beyond the counts are made new when they are taken. */
        void becomeNew() {
            sky.becomeNew();
            rules.becomeNew();
            recordsSoFar = 0;
            contactsSoFar = 0;
            Arrays.fill(figures, 0);
            handoversSoFar = 0;
            now = 0;
            randomState = 1;
        }

        void copyFrom(Simulation other) {
            sky.copyFrom(other.sky);
            rules.copyFrom(other.rules);
            recordsSoFar = other.recordsSoFar;
            for (int number = 0; number < recordsSoFar && number < MOST_RECORDS; number++) {
                records[number].copyFrom(other.records[number]);
            }
            contactsSoFar = other.contactsSoFar;
            for (int place = 0; place < contactsSoFar && place < MOST_CONTACTS; place++) {
                contacts[place].copyFrom(other.contacts[place]);
            }
            System.arraycopy(other.figures, 0, figures, 0, FIGURES);
            handoversSoFar = other.handoversSoFar;
            now = other.now;
            randomState = other.randomState;
        }

        // -- records

        boolean isFull() {
            return recordsSoFar >= MOST_RECORDS;
        }

        boolean hasMemoryFor(int size) {
            return framesHeld() + size <= rules.memory;
        }

        int admit(int size, int priority) {
            if (isFull()) {
                return NONE;
            }
            records[recordsSoFar].becomeNew(size, priority, now);
            recordsSoFar++;
            return recordsSoFar - 1;
        }

        int framesHeld() {
            int held = 0;
            for (int number = 0; number < recordsSoFar; number++) {
                if (records[number].released == NONE) {
                    held += records[number].size;
                }
            }
            return held;
        }

        int framesToSend(int leastPriority) {
            int sum = 0;
            for (int number = 0; number < recordsSoFar; number++) {
                if (records[number].priority >= leastPriority) {
                    sum += Integer.bitCount(records[number].toSend);
                }
            }
            return sum;
        }

        /** Records are numbered in the order of time, so the lowest number is the oldest. */
        int oldestHeld() {
            for (int number = 0; number < recordsSoFar; number++) {
                if (records[number].released == NONE) {
                    return number;
                }
            }
            return NONE;
        }

        int urgencyOf(DataRecord item) {
            return now - item.added <= rules.freshLimit ? item.priority + rules.freshBonus : item.priority;
        }

        /** Of several the lowest number, which is the one added at the earliest time, too. */
        int mostUrgent() {
            int chosen = NONE;
            int greatest = NONE;
            for (int number = 0; number < recordsSoFar; number++) {
                DataRecord item = records[number];
                if (item.toSend != 0 && urgencyOf(item) > greatest) {
                    chosen = number;
                    greatest = urgencyOf(item);
                }
            }
            return chosen;
        }

        // -- delays

        int sumOfDelays() {
            int sum = 0;
            for (int number = 0; number < recordsSoFar; number++) {
                if (records[number].delivered != NONE) {
                    sum += records[number].delay();
                }
            }
            return sum;
        }

        int slowestDelivered() {
            int slowest = NONE;
            int greatest = NONE;
            for (int number = 0; number < recordsSoFar; number++) {
                DataRecord item = records[number];
                if (item.delivered != NONE && item.delay() > greatest) {
                    slowest = number;
                    greatest = item.delay();
                }
            }
            return slowest;
        }

        /** Puts the delays into a row in ascending order and tells how many there are. */
        int sortDelays(int[] row) {
            int count = 0;
            for (int number = 0; number < recordsSoFar && count < row.length; number++) {
                if (records[number].delivered != NONE) {
                    insert(row, count, records[number].delay());
                    count++;
                }
            }
            return count;
        }

        private static void insert(int[] row, int count, int value) {
            int place = count;
            while (place > 0 && row[place - 1] > value) {
                row[place] = row[place - 1];
                place--;
            }
            row[place] = value;
        }

        // -- contacts

        boolean keeps(int contact) {
            return contact >= 0 && contact >= contactsSoFar - MOST_CONTACTS && contact < contactsSoFar;
        }

        Contact keptContact(int contact) {
            return contacts[contact < 0 ? 0 : contact % MOST_CONTACTS];
        }

        int oldestContact() {
            return Math.max(0, contactsSoFar - MOST_CONTACTS);
        }

        int talkingTo() {
            if (contactsSoFar == 0) {
                return NONE;
            }
            Contact latest = keptContact(contactsSoFar - 1);
            return latest.end == NONE ? latest.station : NONE;
        }

        int latestWith(int station) {
            for (int number = contactsSoFar - 1; number >= oldestContact(); number--) {
                if (keptContact(number).station == station) {
                    return number;
                }
            }
            return NONE;
        }

        int foreseeContact(int what) {
            int present = talkingTo();
            int limit = now + FORESIGHT;
            for (int minute = now; minute < limit; minute++) {
                int chosen = sky.choose(minute, present, rules.policy);
                if (chosen != NONE && chosen != present) {
                    return what == 0 ? chosen : what == 1 ? minute : foreseeEnd(chosen, minute + 1, limit);
                }
                present = chosen;
            }
            return NONE;
        }

        private int foreseeEnd(int station, int from, int limit) {
            for (int minute = from; minute < limit; minute++) {
                if (sky.choose(minute, station, rules.policy) != station) {
                    return minute;
                }
            }
            return limit;
        }

        // -- minutes

        void passMinute() {
            int present = talkingTo();
            int chosen = sky.choose(now, present, rules.policy);
            if (present != NONE && present != chosen) {
                keptContact(contactsSoFar - 1).end = now;
            }
            if (chosen != NONE) {
                if (present != chosen) {
                    beginContact(chosen);
                    handoversSoFar += present == NONE ? 0 : 1;
                }
                talk(keptContact(contactsSoFar - 1), sky.stations[chosen]);
            }
            now++;
        }

        private void beginContact(int station) {
            Contact fresh = keptContact(contactsSoFar);
            if (contactsSoFar >= MOST_CONTACTS) {
                // The new contact takes the place of the oldest one.
                sendAgain(fresh);
            }
            fresh.becomeNew(contactsSoFar, station, now);
            contactsSoFar++;
            sky.stations[station].figures[CONTACTS_WITH]++;
            takeReports(station);
            giveUpContacts();
        }

        private void takeReports(int station) {
            for (int number = oldestContact(); number < contactsSoFar; number++) {
                Contact old = keptContact(number);
                boolean known = old.station == station || old.endedLongAgo(now, rules.groundDelay);
                if (old.end != NONE && old.report != REPORT_GOT && known) {
                    takeReport(old);
                    figures[REPORTS]++;
                    sky.stations[station].figures[FOREIGN_REPORTS] += old.station == station ? 0 : 1;
                }
            }
        }

        private void takeReport(Contact old) {
            old.report = REPORT_GOT;
            for (int number = 0; number < recordsSoFar; number++) {
                DataRecord item = records[number];
                item.acknowledge(old.received[number]);
                item.sendAgain(old.sent[number] & ~old.received[number], old.number);
                if (item.released == NONE && item.acknowledged == item.everyFrame()) {
                    item.released = now;
                    figures[RELEASED]++;
                }
            }
        }

        private void giveUpContacts() {
            for (int number = oldestContact(); number < contactsSoFar; number++) {
                Contact old = keptContact(number);
                if (old.report == REPORT_AWAITED && old.endedLongAgo(now, rules.patience)) {
                    old.report = REPORT_GIVEN_UP;
                    figures[GIVEN_UP]++;
                    sendAgain(old);
                }
            }
        }

        private void sendAgain(Contact old) {
            for (int number = 0; number < recordsSoFar; number++) {
                records[number].sendAgain(old.sent[number], old.number);
            }
        }

        private void talk(Contact contact, Station station) {
            station.figures[MINUTES_WITH]++;
            for (int place = 0; place < station.rate; place++) {
                int record = mostUrgent();
                if (record == NONE) {
                    return;
                }
                sendFrame(contact, station, record);
            }
        }

        private void sendFrame(Contact contact, Station station, int record) {
            DataRecord item = records[record];
            int frame = item.lowestToSend();
            if (frame == NONE) {
                return;
            }
            item.noteSent(frame, contact.number);
            contact.sent[record] |= 1 << frame;
            figures[SENT]++;
            station.figures[SENT_TO]++;
            if (drawOfHundred() < station.loss) {
                figures[LOST]++;
                return;
            }
            contact.received[record] |= 1 << frame;
            station.figures[RECEIVED_BY]++;
            archive(item, frame);
        }

        private void archive(DataRecord item, int frame) {
            if ((item.archived & 1 << frame) != 0) {
                figures[DUPLICATES]++;
                return;
            }
            item.archived |= 1 << frame;
            figures[ARCHIVED]++;
            if (item.archived == item.everyFrame()) {
                item.delivered = now;
                figures[DELIVERED]++;
            }
        }

        private int drawOfHundred() {
            randomState = (int) ((randomState * 1103515245L + 12345L) % 2147483648L);
            return randomState / 65536 % 100;
        }
    }

    /** The text buffer, and the parser that reads it. */
    private static final class SetupText {
        static final int END = 0;
        static final int WORD = 1;
        static final int NUMBER = 2;
        static final int SEMICOLON = 3;
        static final int NO_TOKEN = 4;

        static final int NOT_ALLOWED = 1;
        static final int OUT_OF_RANGE = 2;
        static final int NO_ROOM = 3;

        final byte[] bytes = new byte[MOST_BYTES];
        int length = 0;
        int error = 0;
        int errorAt = NONE;

        private int token = END;
        private int tokenStart = 0;
        /** The index behind the present token, where the next one is looked for. */
        private int tokenEnd = 0;
        private final int[] numbers = new int[6];

        boolean hasRoomForFour() {
            return length <= MOST_BYTES - 4;
        }

        void appendFour(int fourBytes) {
            for (int down = 24; down >= 0 && length < MOST_BYTES; down -= 8) {
                bytes[length] = (byte) (fourBytes >> down);
                length++;
            }
        }

        /** Sets up a new simulation; tells the number of statements, or NONE and notes the error. */
        int readSetup(Simulation target) {
            tokenEnd = 0;
            error = 0;
            errorAt = NONE;
            // Every statement takes bytes, so there are never more of them than bytes.
            for (int statements = 0; statements <= MOST_BYTES; statements++) {
                readToken();
                if (token == END) {
                    return statements;
                }
                if (!readStatement(target) || !readSemicolon()) {
                    return NONE;
                }
            }
            return NONE;
        }

        private boolean refuse(int code) {
            error = code;
            errorAt = tokenStart;
            return false;
        }

        private boolean readSemicolon() {
            readToken();
            return token == SEMICOLON || refuse(NOT_ALLOWED);
        }

        private boolean readStatement(Simulation target) {
            if (isWord("orbit")) {
                return readOrbit(target);
            }
            if (isWord("station")) {
                return readStation(target);
            }
            if (isWord("ground")) {
                return readGround(target);
            }
            if (isWord("patience")) {
                return readPatience(target);
            }
            if (isWord("fresh")) {
                return readFresh(target);
            }
            if (isWord("memory")) {
                return readMemory(target);
            }
            if (isWord("policy")) {
                return readPolicy(target);
            }
            return isWord("record") ? readRecord(target) : refuse(NOT_ALLOWED);
        }

        private boolean readOrbit(Simulation target) {
            boolean right = readNumber(0, LEAST_PERIOD, MOST_PERIOD)
                    && readNumber(1, 0, LAST_DEGREE)
                    && readNumber(2, 0, LAST_DEGREE);
            if (right) {
                target.sky.placeOrbit(numbers[0], numbers[1], numbers[2]);
            }
            return right;
        }

        private boolean readStation(Simulation target) {
            if (target.sky.isFull()) {
                return refuse(NO_ROOM);
            }
            boolean right = readNumber(0, 0, LAST_DEGREE)
                    && readNumber(1, 0, MOST_REACH)
                    && readNumber(2, 1, MOST_LENGTH)
                    && readNumber(3, 0, LAST_PHASE)
                    && readNumber(4, 1, MOST_RATE)
                    && readNumber(5, 0, MOST_LOSS);
            if (right) {
                target.sky.admit(numbers[0], numbers[1], numbers[2], numbers[3], numbers[4], numbers[5]);
            }
            return right;
        }

        private boolean readGround(Simulation target) {
            boolean right = readNumber(0, 0, MOST_DELAY);
            if (right) {
                target.rules.groundDelay = numbers[0];
            }
            return right;
        }

        private boolean readPatience(Simulation target) {
            boolean right = readNumber(0, 1, MOST_PATIENCE);
            if (right) {
                target.rules.patience = numbers[0];
            }
            return right;
        }

        private boolean readFresh(Simulation target) {
            boolean right = readNumber(0, 0, MOST_FRESH) && readNumber(1, 0, MOST_BONUS);
            if (right) {
                target.rules.freshLimit = numbers[0];
                target.rules.freshBonus = numbers[1];
            }
            return right;
        }

        private boolean readMemory(Simulation target) {
            if (!readNumber(0, LEAST_MEMORY, MOST_MEMORY)) {
                return false;
            }
            if (target.framesHeld() > numbers[0]) {
                return refuse(NO_ROOM);
            }
            target.rules.memory = numbers[0];
            return true;
        }

        private boolean readPolicy(Simulation target) {
            readToken();
            if (isWord("stay")) {
                target.rules.policy = STAY;
                return true;
            }
            if (isWord("longest")) {
                target.rules.policy = LONGEST;
                return true;
            }
            return refuse(NOT_ALLOWED);
        }

        private boolean readRecord(Simulation target) {
            if (target.isFull()) {
                return refuse(NO_ROOM);
            }
            if (!readNumber(0, 1, MOST_FRAMES)) {
                return false;
            }
            if (!target.hasMemoryFor(numbers[0])) {
                return refuse(NO_ROOM);
            }
            boolean right = readNumber(1, 0, MOST_PRIORITY);
            if (right) {
                target.admit(numbers[0], numbers[1]);
            }
            return right;
        }

        private boolean readNumber(int place, int low, int high) {
            readToken();
            if (token != NUMBER || outside(place, 0, numbers.length - 1)) {
                return refuse(NOT_ALLOWED);
            }
            numbers[place] = tokenValue();
            return !outside(numbers[place], low, high) || refuse(OUT_OF_RANGE);
        }

        private int tokenValue() {
            int value = 0;
            for (int index = tokenStart; index < tokenEnd; index++) {
                // Above every range further digits no longer matter, and must not overflow.
                if (value < 100000) {
                    value = 10 * value + bytes[index] - '0';
                }
            }
            return value;
        }

        private boolean isWord(String word) {
            if (token != WORD || tokenEnd - tokenStart != word.length()) {
                return false;
            }
            for (int index = 0; index < word.length(); index++) {
                if (bytes[tokenStart + index] != word.charAt(index)) {
                    return false;
                }
            }
            return true;
        }

        private void readToken() {
            tokenStart = tokenEnd;
            while (tokenStart < length && isBlank(bytes[tokenStart])) {
                tokenStart++;
            }
            token = tokenStart < length ? kindOf(bytes[tokenStart]) : END;
            tokenEnd = tokenStart;
            if (token == WORD || token == NUMBER) {
                while (tokenEnd < length && kindOf(bytes[tokenEnd]) == token) {
                    tokenEnd++;
                }
            } else if (token != END) {
                tokenEnd++;
            }
        }

        private static boolean isBlank(byte sign) {
            return sign == ' ' || sign == '\n';
        }

        /** The kind of the token that a byte belongs to. */
        private static int kindOf(byte sign) {
            if (sign >= 'a' && sign <= 'z') {
                return WORD;
            }
            if (sign >= '0' && sign <= '9') {
                return NUMBER;
            }
            return sign == ';' ? SEMICOLON : NO_TOKEN;
        }
    }
}
