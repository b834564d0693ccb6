/** Promises 22 to 34: records. */
public final class RecordsTest {
    private static final int[] NO_RECORD = {-1, 3, 40, Integer.MIN_VALUE, Integer.MAX_VALUE};

    public static void main(String[] args) {
        addRecord();
        refusedRecords();
        priorities();
        urgency();
        nextRecord();
        framesOnTheirWay();
        sentIn();
        deliveryAndRelease();
        backlog();
        oldestRecord();
        wrongRecords();
        Check.end();
    }

    private static void addRecord() {
        PassLink x = new PassLink();
        Check.is("first", x.addRecord(1, 0), 0);
        Check.is("second", x.addRecord(24, 9), 1);
        Check.is("count", x.recordCount(), 2);
        Check.is("in use", x.memoryInUse(), 25);
        Check.is("one frame", x.frames(0, 0), 1);
        Check.is("24 frames", x.frames(1, 0), (1 << 24) - 1);
        Check.is("none under way", x.frames(1, 1), 0);
        Check.is("none acknowledged", x.frames(1, 2), 0);
        Check.is("none archived", x.frames(1, 3), 0);
        Check.is("not delivered", x.deliveredAt(1), -1);
        Check.is("not released", x.releasedAt(1), -1);
        Check.is("not sent", x.sentIn(1, 23), -1);
    }

    private static void refusedRecords() {
        int[][] wrong = {{0, 0}, {25, 0}, {-1, 0}, {1, -1}, {1, 10}, {Integer.MIN_VALUE, 0}, {1, Integer.MAX_VALUE}};
        for (int[] w : wrong) {
            Check.refuses("addRecord", IllegalArgumentException.class, Scenes.BUSY, l -> l.addRecord(w[0], w[1]));
            Check.refuses("to 40", IllegalArgumentException.class, Scenes.FULL, l -> l.addRecord(w[0], w[1]));
        }
        Check.refuses("a 41st", IllegalStateException.class, Scenes.FULL, l -> l.addRecord(1, 0));
        PassLink x = new PassLink();
        x.setMemory(24);
        x.addRecord(20, 0);
        Check.is("too big", Check.thrownBy(x, l -> l.addRecord(5, 0)), "IllegalStateException");
        Check.is("count", x.recordCount(), 1);
        Check.is("just fits", x.addRecord(4, 0), 1);
        Check.is("full", Check.thrownBy(x, l -> l.addRecord(1, 0)), "IllegalStateException");
    }

    private static void priorities() {
        PassLink x = new PassLink();
        x.addRecord(1, 3);
        Check.is("previous", x.setPriority(0, 9), 3);
        Check.is("previous", x.setPriority(0, 0), 9);
        Check.is("urgency", x.urgency(0), 5);
        for (int record : NO_RECORD) {
            Check.refuses("no record", IndexOutOfBoundsException.class, Scenes.BUSY, l -> l.setPriority(record, 1));
            Check.refuses("record first", IndexOutOfBoundsException.class, Scenes.BUSY, l -> l.setPriority(record, 10));
        }
        for (int priority : new int[] {-1, 10}) {
            Check.refuses("priority", IllegalArgumentException.class, Scenes.BUSY, l -> l.setPriority(0, priority));
        }
    }

    private static void urgency() {
        PassLink x = new PassLink();
        x.advance(7);
        x.addRecord(1, 3);
        Check.is("fresh", x.urgency(0), 8);
        x.advance(30);
        Check.is("fresh at the limit", x.urgency(0), 8);
        x.advance(1);
        Check.is("no more", x.urgency(0), 3);
        x.setFresh(31, 9);
        Check.is("by another limit", x.urgency(0), 12);
        x.setFresh(0, 9);
        x.addRecord(1, 0);
        Check.is("in its first minute", x.urgency(1), 9);
        x.advance(1);
        Check.is("behind it", x.urgency(1), 0);
    }

    private static void nextRecord() {
        PassLink x = Scenes.steady(50, 30, 1);
        Check.is("none", x.nextRecord(), -1);
        x.addRecord(1, 4);
        x.advance(1);
        x.addRecord(1, 4);
        x.addRecord(1, 5);
        x.addRecord(1, 5);
        Check.is("the lowest number", x.nextRecord(), 2);
        x.setPriority(2, 0);
        x.setPriority(3, 0);
        Check.is("the earliest", x.nextRecord(), 0);
        x.advance(30);
        Check.is("fresh ones ahead", x.nextRecord(), 1);
        x.advance(1);
        Check.is("all stale", x.nextRecord(), 0);
        x.advance(19);
        Check.is("sent: the next", x.nextRecord(), 1);
        x.advance(2);
        Check.is("of the rest", x.nextRecord(), 3);
        x.advance(1);
        Check.is("all under way", x.nextRecord(), -1);
    }

    /** One frame a minute: lowest first, of the next record of that minute. */
    private static void framesOnTheirWay() {
        PassLink x = Scenes.steady(0, 10, 1);
        x.addRecord(3, 1);
        Check.is("at first", x.resumePoint(0), 0);
        x.advance(2);
        Check.is("to send", x.frames(0, 0), 4);
        Check.is("under way", x.frames(0, 1), 3);
        Check.is("acknowledged", x.frames(0, 2), 0);
        Check.is("archived", x.frames(0, 3), 3);
        Check.is("resume", x.resumePoint(0), 2);
        x.addRecord(1, 2);
        x.advance(1);
        Check.is("the other went ahead", x.frames(0, 0), 4);
        Check.is("it is under way", x.frames(1, 1), 1);
        x.advance(1);
        Check.is("then the rest", x.resumePoint(0), -1);
        x.advance(97);
        Check.is("acknowledged at the next pass", x.frames(0, 2), 7);
        Check.is("no more under way", x.frames(0, 1), 0);
        Check.is("still archived", x.frames(0, 3), 7);
        Check.is("nothing to resume", x.resumePoint(0), -1);
        for (int state : new int[] {-1, 4}) {
            Check.refuses("state", IllegalArgumentException.class, Scenes.BUSY, l -> l.frames(0, state));
        }
    }

    private static void sentIn() {
        PassLink x = Scenes.steady(0, 1, 1);
        x.setLoss(0, 39);
        x.addRecord(2, 1);
        x.advance(1);
        Check.is("lost", x.figure(1), 1);
        Check.is("in contact 0", x.sentIn(0, 0), 0);
        Check.is("not yet", x.sentIn(0, 1), -1);
        x.advance(99);
        Check.is("still", x.sentIn(0, 0), 0);
        x.setLoss(0, 0);
        x.advance(1);
        Check.is("again in contact 1", x.sentIn(0, 0), 1);
        Check.is("not yet", x.sentIn(0, 1), -1);
        x.advance(100);
        Check.is("the other in contact 2", x.sentIn(0, 1), 2);
        Check.is("the first stays", x.sentIn(0, 0), 1);
        for (int frame : new int[] {-1, 2, 24, Integer.MAX_VALUE}) {
            Check.is("frame " + frame, Check.thrownBy(x, l -> l.sentIn(0, frame)), "IndexOutOfBoundsException");
        }
        Check.refuses("frame", IndexOutOfBoundsException.class, Scenes.BUSY, l -> l.sentIn(1, 3));
    }

    private static void deliveryAndRelease() {
        PassLink x = Scenes.steady(3, 2, 1);
        x.addRecord(2, 0);
        x.addRecord(1, 0);
        x.advance(4);
        Check.is("half", x.deliveredAt(0), -1);
        x.advance(1);
        Check.is("in its minute", x.deliveredAt(0), 4);
        Check.is("not released", x.releasedAt(0), -1);
        Check.is("in use", x.memoryInUse(), 3);
        x.advance(98);
        Check.is("before the pass", x.releasedAt(0), -1);
        x.advance(1);
        Check.is("at its beginning", x.releasedAt(0), 103);
        Check.is("in use", x.memoryInUse(), 1);
        Check.is("the other", x.deliveredAt(1), 103);
        Check.is("count with released ones", x.recordCount(), 2);
        x.advance(200);
        Check.is("it stays so", x.releasedAt(0), 103);
        Check.is("delivered once", x.deliveredAt(0), 4);
        Check.is("nothing in use", x.memoryInUse(), 0);
    }

    private static void backlog() {
        PassLink x = Scenes.steady(0, 10, 3);
        x.setFresh(999, 9);
        x.addRecord(5, 0);
        x.addRecord(7, 4);
        x.addRecord(11, 9);
        int[] due = {23, 18, 18, 18, 18, 11, 11, 11, 11, 11};
        for (int priority = 0; priority < 10; priority++) {
            Check.is("backlog " + priority, x.backlog(priority), due[priority]);
        }
        x.advance(2);
        Check.is("less what was sent", x.backlog(9), 5);
        for (int priority : new int[] {-1, 10}) {
            Check.refuses("backlog", IllegalArgumentException.class, Scenes.BUSY, l -> l.backlog(priority));
        }
    }

    private static void oldestRecord() {
        PassLink x = Scenes.steady(0, 1, 2);
        Check.is("none", x.oldestRecord(), -1);
        x.addRecord(1, 0);
        x.addRecord(2, 0);
        x.addRecord(1, 9);
        Check.is("of several the lowest", x.oldestRecord(), 0);
        x.advance(101);
        Check.is("0 and 2 are released", x.oldestRecord(), 1);
        x.advance(100);
        Check.is("all are released", x.oldestRecord(), -1);
        x.addRecord(1, 0);
        Check.is("a new one", x.oldestRecord(), 3);
    }

    private static void wrongRecords() {
        for (int record : NO_RECORD) {
            Check.Call[] calls = {l -> l.urgency(record), l -> l.resumePoint(record), l -> l.frames(record, 0),
                l -> l.frames(record, 9), l -> l.sentIn(record, 0), l -> l.deliveredAt(record),
                l -> l.releasedAt(record)};
            for (Check.Call call : calls) {
                Check.refuses("record " + record, IndexOutOfBoundsException.class, Scenes.BUSY, call);
            }
        }
    }
}
