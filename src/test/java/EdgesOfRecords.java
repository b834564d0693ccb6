/** Sentences of the promises 22 to 34: records. */
final class EdgesOfRecords {
    private static final Check.Scene[] SOME = {Scenes.BUSY, Scenes.FULL};
    private static final Check.Scene[] ANY = {Scenes.EMPTY, Scenes.BUSY, Scenes.FULL, Scenes.AT_THE_END};
    private static final int ALL_24 = (1 << 24) - 1;

    private EdgesOfRecords() {
    }

    static void hold() {
        addRecord();
        refusedRecords();
        recordCount();
        setPriority();
        urgency();
        nextRecord();
        resumePoint();
        frames();
        sentIn();
        deliveredAt();
        releasedAt();
        backlog();
        oldestRecord();
        memoryInUse();
    }

    /** The records of the scenes: none, 3 and 40. */
    private static void recordLimits(Edges.Numbered call) {
        Edges.limits("`record`: a record", Edges.INDEX, 0, -1, call, Scenes.EMPTY);
        Edges.limits("`record`: a record", Edges.INDEX, 0, 2, call, Scenes.BUSY);
        Edges.limits("`record`: a record", Edges.INDEX, 0, 39, call, Scenes.FULL);
    }

    private static void noSuchRecord(Edges.Numbered call) {
        recordLimits(call);
        Edges.holds("Throws `IndexOutOfBoundsException` if there is no such record", () -> {
            Edges.refuses(Edges.INDEX, l -> call.on(l, 0), Scenes.EMPTY);
            Edges.refuses(Edges.INDEX, l -> call.on(l, 3), Scenes.BUSY);
            Edges.refuses(Edges.INDEX, l -> call.on(l, 40), Scenes.FULL);
            Edges.refuses(Edges.INDEX, l -> call.on(l, -1), ANY);
        });
    }

    private static void addRecord() {
        Edges.promise(22);
        Edges.limits("`size`: 1 to 24", Edges.ARGUMENT, 1, 24, (l, v) -> l.addRecord(v, 5), Scenes.EMPTY, Scenes.BUSY);
        Edges.limits("`priority`: 0 to 9", Edges.ARGUMENT, 0, 9, (l, v) -> l.addRecord(5, v),
                Scenes.EMPTY, Scenes.BUSY);
        Edges.holds("Adds a record at the present time.", () -> {
            PassLink x = new PassLink();
            x.setFresh(0, 9);
            x.addRecord(1, 0);
            x.advance(1);
            x.addRecord(1, 0);
            Check.is("added at 0", x.urgency(0), 0);
            Check.is("added at 1", x.urgency(1), 9);
            PassLink y = Scenes.steady(0, 5, 1);
            y.advance(100);
            y.addRecord(1, 0);
            y.advance(1);
            Check.is("its delay", y.medianDelay(), 0);
        });
        Edges.holds("`size`: 1 to 24", () -> {
            for (int size = 1; size <= 24; size++) {
                PassLink x = new PassLink();
                x.addRecord(size, 0);
                Check.is("frames of " + size, x.frames(0, 0), ALL_24 >> 24 - size);
                Check.is("in use by " + size, x.memoryInUse(), size);
                int last = size - 1;
                Check.is("the last frame", Check.thrownBy(x, l -> l.sentIn(0, last)), "nothing");
                Check.is("behind it", Check.thrownBy(x, l -> l.sentIn(0, last + 1)), "IndexOutOfBoundsException");
            }
        });
        Edges.holds("`priority`: 0 to 9", () -> {
            for (int priority = 0; priority <= 9; priority++) {
                PassLink x = new PassLink();
                x.addRecord(1, priority);
                Check.is("urgency by " + priority, x.urgency(0), priority + 5);
            }
        });
        Edges.holds("Returns the number of the record.", () -> {
            PassLink x = new PassLink();
            for (int number = 0; number < 40; number++) {
                Check.is("number", x.addRecord(1, 0), number);
                Check.is("between them", Check.thrownBy(x, l -> l.addRecord(0, 0)), "IllegalArgumentException");
            }
            PassLink y = Scenes.steady(0, 1, 20);
            y.addRecord(1, 0);
            y.advance(101);
            Check.is("released", y.releasedAt(0), 100);
            Check.is("a released record keeps its number", y.addRecord(1, 0), 1);
        });
    }

    private static void refusedRecords() {
        Edges.holds("Throws `IllegalArgumentException` if an argument is out of range", () -> {
            // In the full scenes there are 40 records and no memory, too: this comes first.
            int[][] wrong = {{0, 0}, {25, 9}, {1, -1}, {24, 10}, {0, -1}, {25, 10}, {-1, 5}, {Integer.MAX_VALUE, 5},
                {Integer.MIN_VALUE, 5}, {5, Integer.MAX_VALUE}, {5, Integer.MIN_VALUE}};
            for (int[] w : wrong) {
                Edges.refuses(Edges.ARGUMENT, l -> l.addRecord(w[0], w[1]), ANY);
            }
            Check.Scene noMemory = () -> {
                PassLink x = new PassLink();
                x.setMemory(24);
                x.addRecord(24, 0);
                return x;
            };
            Edges.refuses(Edges.ARGUMENT, l -> l.addRecord(25, 0), noMemory);
            Edges.refuses(Edges.ARGUMENT, l -> l.addRecord(1, 10), noMemory);
        });
        Edges.holds("Throws `IllegalStateException` if there are 40 records, or not enough memory", () -> {
            Edges.refuses(Edges.STATE, l -> l.addRecord(1, 0), Scenes.FULL, Scenes.AT_THE_END);
            PassLink x = new PassLink();
            for (int n = 0; n < 39; n++) {
                x.addRecord(1, 0);
            }
            Check.is("the 40th", x.addRecord(1, 0), 39);
            Check.is("the 41st", Check.thrownBy(x, l -> l.addRecord(1, 0)), "IllegalStateException");
            Check.is("though there is memory", x.memoryInUse(), 40);
        });
        Edges.holds("or not enough memory", () -> {
            Check.Scene almost = () -> {
                PassLink x = new PassLink();
                x.setMemory(30);
                x.addRecord(24, 0);
                return x;
            };
            Edges.refuses(Edges.STATE, l -> l.addRecord(7, 0), almost);
            Edges.refuses(Edges.STATE, l -> l.addRecord(24, 9), almost);
            Check.is("what just fits", almost.make().addRecord(6, 0), 1);
            PassLink y = new PassLink();
            for (int n = 0; n < 12; n++) {
                y.addRecord(24, 0);
            }
            Check.is("13 of 300 are too much", Check.thrownBy(y, l -> l.addRecord(13, 0)), "IllegalStateException");
            Check.is("12 fill the first memory", y.addRecord(12, 0), 12);
            Check.is("it is full", Check.thrownBy(y, l -> l.addRecord(1, 0)), "IllegalStateException");
        });
    }

    private static void recordCount() {
        Edges.promise(23);
        Edges.holds("Returns the number of records, released ones included.", () -> {
            PassLink x = Scenes.steady(0, 1, 20);
            Check.is("none", x.recordCount(), 0);
            x.addRecord(20, 0);
            Check.is("one", x.recordCount(), 1);
            x.advance(101);
            Check.is("released", x.figure(5), 1);
            Check.is("still one", x.recordCount(), 1);
            for (int n = 1; n < 40; n++) {
                x.addRecord(1, 0);
            }
            Check.is("40", x.recordCount(), 40);
            Check.thrownBy(x, l -> l.addRecord(1, 0));
            Check.is("40 behind a refused one", x.recordCount(), 40);
        });
    }

    private static void setPriority() {
        Edges.promise(24);
        recordLimits((l, v) -> l.setPriority(v, 5));
        Edges.limits("`priority`: 0 to 9", Edges.ARGUMENT, 0, 9, (l, v) -> l.setPriority(0, v), SOME);
        Edges.holds("`priority`: 0 to 9", () -> {
            PassLink x = new PassLink();
            x.addRecord(1, 4);
            x.addRecord(1, 4);
            x.setPriority(1, 9);
            Check.is("the greatest", x.urgency(1), 14);
            x.setPriority(1, 0);
            Check.is("the least", x.urgency(1), 5);
            Check.is("the other stays", x.urgency(0), 9);
        });
        Edges.holds("Returns the previous priority.", () -> {
            PassLink x = new PassLink();
            x.addRecord(1, 9);
            Check.is("the greatest", x.setPriority(0, 0), 9);
            Check.thrownBy(x, l -> l.setPriority(0, 10));
            Check.is("the least", x.setPriority(0, 3), 0);
        });
        Edges.holds("Throws `IndexOutOfBoundsException` if there is no such record", () -> {
            for (int priority : new int[] {-1, 0, 9, 10}) {
                Edges.refuses(Edges.INDEX, l -> l.setPriority(0, priority), Scenes.EMPTY);
                Edges.refuses(Edges.INDEX, l -> l.setPriority(3, priority), Scenes.BUSY);
                Edges.refuses(Edges.INDEX, l -> l.setPriority(40, priority), Scenes.FULL);
                Edges.refuses(Edges.INDEX, l -> l.setPriority(-1, priority), ANY);
            }
        });
        Edges.holds("Throws `IllegalArgumentException` if priority is out of range", () -> {
            Edges.refuses(Edges.ARGUMENT, l -> l.setPriority(0, -1), SOME);
            Edges.refuses(Edges.ARGUMENT, l -> l.setPriority(2, 10), SOME);
        });
    }

    private static void urgency() {
        Edges.promise(25);
        noSuchRecord(PassLink::urgency);
        Edges.holds("Returns its urgency at the present time.", () -> {
            PassLink x = new PassLink();
            x.addRecord(1, 9);
            x.setFresh(999, 9);
            Check.is("the greatest of all", x.urgency(0), 18);
            x.advance(999);
            Check.is("at the limit", x.urgency(0), 18);
            x.advance(1);
            Check.is("behind it", x.urgency(0), 9);
            x.setPriority(0, 0);
            Check.is("the least of all", x.urgency(0), 0);
        });
    }

    private static void nextRecord() {
        Edges.promise(26);
        Edges.holds("Returns the next record at the present time", () -> {
            PassLink x = new PassLink();
            x.addRecord(1, 4);
            x.advance(1);
            x.addRecord(1, 0);
            Check.is("both are fresh", x.nextRecord(), 0);
            x.advance(30);
            Check.is("1 has the bonus alone", x.nextRecord(), 1);
            x.advance(1);
            Check.is("none is fresh", x.nextRecord(), 0);
            for (int n = 2; n < 40; n++) {
                x.addRecord(1, n == 39 ? 1 : 0);
            }
            Check.is("the 40th record", x.nextRecord(), 39);
        });
        Edges.holds("NONE if no record has frames TO SEND.", () -> {
            Check.is("no records", new PassLink().nextRecord(), -1);
            PassLink x = Scenes.steady(0, 1, 20);
            x.addRecord(20, 0);
            Check.is("all to send", x.nextRecord(), 0);
            x.advance(1);
            Check.is("all under way", x.nextRecord(), -1);
            x.advance(100);
            Check.is("all acknowledged", x.nextRecord(), -1);
            PassLink y = Scenes.steady(0, 1, 20);
            y.addRecord(21, 0);
            y.advance(1);
            Check.is("one is left", y.nextRecord(), 0);
        });
    }

    private static void resumePoint() {
        Edges.promise(27);
        noSuchRecord(PassLink::resumePoint);
        Edges.holds("Returns the lowest frame that is TO SEND", () -> {
            PassLink x = Scenes.steady(0, 30, 1);
            x.addRecord(24, 0);
            for (int frame = 0; frame < 24; frame++) {
                Check.is("frame", x.resumePoint(0), frame);
                x.advance(1);
            }
            Check.is("behind the last one", x.resumePoint(0), -1);
            // The states behind this seed are another, 0 and 12345, so that the draws behind the first are 0 and 0.
            PassLink y = Scenes.steady(0, 1, 3);
            y.addRecord(4, 0);
            y.setLoss(0, 1);
            y.setSeed(Draws.before(Draws.before(0)));
            y.advance(1);
            Check.is("frames 1 and 2 are lost", y.contactFrames(0, 0, true), 1);
            Check.is("nobody knows", y.resumePoint(0), 3);
            y.addRecord(3, 9);
            y.advance(100);
            Check.is("1 comes ahead of 3, which was not sent", y.resumePoint(0), 1);
        });
        Edges.holds("NONE if there is none.", () -> {
            PassLink x = Scenes.steady(0, 1, 20);
            x.addRecord(1, 0);
            x.advance(1);
            Check.is("under way", x.resumePoint(0), -1);
            x.advance(100);
            Check.is("acknowledged", x.resumePoint(0), -1);
        });
    }

    private static void frames() {
        Edges.promise(28);
        recordLimits((l, v) -> l.frames(v, 0));
        Edges.limits("`state`: 0: TO SEND; 1: UNDER WAY; 2: ACKNOWLEDGED; 3: in the archive", Edges.ARGUMENT, 0, 3,
                (l, v) -> l.frames(0, v), SOME);
        Edges.holds("`state`: 0: TO SEND; 1: UNDER WAY; 2: ACKNOWLEDGED; 3: in the archive", () -> {
            PassLink x = Scenes.steady(0, 1, 8);
            x.addRecord(24, 0);
            framesAre(x, ALL_24, 0, 0, 0);
            x.advance(1);
            framesAre(x, 0xffff00, 0xff, 0, 0xff);
            x.advance(100);
            framesAre(x, 0xff0000, 0xff00, 0xff, 0xffff);
            x.advance(100);
            framesAre(x, 0, 0xff0000, 0xffff, ALL_24);
            x.advance(100);
            framesAre(x, 0, 0, ALL_24, ALL_24);
        });
        Edges.holds("Returns the frames of the record for which this is so, as a bit mask.", () -> {
            PassLink x = Scenes.steady(0, 30, 1);
            x.addRecord(24, 0);
            for (int frame = 0; frame < 24; frame++) {
                x.advance(1);
                Check.is("under way behind frame " + frame, x.frames(0, 1), (1 << frame + 1) - 1);
            }
        });
        Edges.holds("Throws `IndexOutOfBoundsException` if there is no such record", () -> {
            for (int state : new int[] {-1, 0, 3, 4}) {
                Edges.refuses(Edges.INDEX, l -> l.frames(0, state), Scenes.EMPTY);
                Edges.refuses(Edges.INDEX, l -> l.frames(3, state), Scenes.BUSY);
                Edges.refuses(Edges.INDEX, l -> l.frames(40, state), Scenes.FULL);
                Edges.refuses(Edges.INDEX, l -> l.frames(-1, state), ANY);
            }
        });
        Edges.holds("Throws `IllegalArgumentException` if state is out of range", () -> {
            Edges.refuses(Edges.ARGUMENT, l -> l.frames(0, -1), SOME);
            Edges.refuses(Edges.ARGUMENT, l -> l.frames(2, 4), SOME);
        });
    }

    private static void framesAre(PassLink x, int... masks) {
        for (int state = 0; state < 4; state++) {
            Check.is("state " + state + " at " + x.time(), x.frames(0, state), masks[state]);
        }
    }

    private static void sentIn() {
        Edges.promise(29);
        recordLimits((l, v) -> l.sentIn(v, 0));
        // Record 1 of the busy scene has 3 frames, record 2 has 24, record 0 of the full one has 1.
        Edges.limits("`frame`: a frame of the record", Edges.INDEX, 0, 2, (l, v) -> l.sentIn(1, v), Scenes.BUSY);
        Edges.limits("`frame`: a frame of the record", Edges.INDEX, 0, 23, (l, v) -> l.sentIn(2, v), Scenes.BUSY);
        Edges.limits("`frame`: a frame of the record", Edges.INDEX, 0, 0, (l, v) -> l.sentIn(0, v), Scenes.FULL);
        Edges.holds("Returns the contact in which it was sent last", () -> {
            PassLink x = Scenes.steady(0, 1, 12);
            x.addRecord(24, 0);
            x.setLoss(0, 1);
            x.setSeed(0);
            x.advance(1);
            Check.is("the first is lost", x.contactFrames(0, 0, true) & 1, 0);
            x.setLoss(0, 0);
            x.advance(100);
            Check.is("it was sent again", x.sentIn(0, 0), 1);
            x.advance(100);
            int lost = 12 - Integer.bitCount(x.contactFrames(0, 0, true));
            Check.is("the last of contact 0", x.sentIn(0, 11), 0);
            Check.is("the last of contact 1", x.sentIn(0, 11 + 12 - lost), 1);
            Check.is("the first of contact 2", x.sentIn(0, 24 - lost), 2);
            Check.is("the last frame", x.sentIn(0, 23), 2);
        });
        Edges.holds("Returns the contact in which it was sent last", () -> {
            PassLink x = Scenes.steady(0, 1, 1);
            x.addRecord(1, 0);
            for (int n = 0; n < 62; n++) {
                x.advance(100);
            }
            Check.is("forgotten", Check.thrownBy(x, l -> l.contactBegin(0)), "IndexOutOfBoundsException");
            Check.is("still the contact", x.sentIn(0, 0), 0);
        });
        Edges.holds("NONE if it was not sent.", () -> {
            PassLink x = Scenes.steady(0, 1, 1);
            x.addRecord(2, 0);
            Check.is("the first, ahead", x.sentIn(0, 0), -1);
            x.advance(1);
            Check.is("the first", x.sentIn(0, 0), 0);
            Check.is("the second", x.sentIn(0, 1), -1);
        });
        Edges.holds("Throws `IndexOutOfBoundsException` if there is no such record or frame", () -> {
            Edges.refuses(Edges.INDEX, l -> l.sentIn(0, 0), Scenes.EMPTY);
            Edges.refuses(Edges.INDEX, l -> l.sentIn(3, 0), Scenes.BUSY);
            Edges.refuses(Edges.INDEX, l -> l.sentIn(40, 0), Scenes.FULL);
            Edges.refuses(Edges.INDEX, l -> l.sentIn(-1, 0), ANY);
            Edges.refuses(Edges.INDEX, l -> l.sentIn(0, -1), ANY);
            Edges.refuses(Edges.INDEX, l -> l.sentIn(1, 3), Scenes.BUSY);
            Edges.refuses(Edges.INDEX, l -> l.sentIn(0, 6), Scenes.BUSY);
            Edges.refuses(Edges.INDEX, l -> l.sentIn(2, 24), Scenes.BUSY);
            Edges.refuses(Edges.INDEX, l -> l.sentIn(3, 24), Scenes.BUSY);
        });
    }

    private static void deliveredAt() {
        Edges.promise(30);
        noSuchRecord(PassLink::deliveredAt);
        Edges.holds("Returns the time at which it was delivered", () -> {
            PassLink x = Scenes.steady(0, 1, 1);
            x.addRecord(1, 0);
            x.addRecord(1, 0);
            x.advance(101);
            Check.is("in minute 0", x.deliveredAt(0), 0);
            Check.is("in minute 100", x.deliveredAt(1), 100);
            x.advance(200);
            Check.is("it stays so", x.deliveredAt(0), 0);
        });
        Edges.holds("NONE if it was not.", () -> {
            PassLink x = Scenes.steady(0, 30, 1);
            x.addRecord(24, 0);
            Check.is("at first", x.deliveredAt(0), -1);
            x.advance(23);
            Check.is("without its last frame", x.deliveredAt(0), -1);
            x.advance(1);
            Check.is("with it", x.deliveredAt(0), 23);
        });
    }

    private static void releasedAt() {
        Edges.promise(31);
        noSuchRecord(PassLink::releasedAt);
        Edges.holds("Returns the time at which it was released", () -> {
            PassLink x = Scenes.steady(0, 1, 1);
            x.addRecord(1, 0);
            x.advance(101);
            Check.is("with the report", x.releasedAt(0), 100);
            x.advance(200);
            Check.is("it stays so", x.releasedAt(0), 100);
        });
        Edges.holds("NONE if it was not.", () -> {
            PassLink x = Scenes.steady(0, 1, 1);
            x.addRecord(1, 0);
            x.addRecord(2, 0);
            Check.is("at first", x.releasedAt(0), -1);
            x.advance(100);
            Check.is("delivered alone", x.releasedAt(0), -1);
            x.advance(200);
            Check.is("with one frame of two acknowledged", x.releasedAt(1), -1);
            Check.is("all delivered", x.deliveredAt(1), 200);
            x.advance(1);
            Check.is("with both", x.releasedAt(1), 300);
        });
    }

    private static void backlog() {
        Edges.promise(32);
        Edges.limits("`priority`: 0 to 9", Edges.ARGUMENT, 0, 9, PassLink::backlog, ANY);
        Edges.holds("Returns the number of frames TO SEND of all records with at least this priority (without a bonus).",
                () -> {
                    Check.is("no records", new PassLink().backlog(0), 0);
                    PassLink x = new PassLink();
                    x.setFresh(999, 9);
                    for (int priority = 0; priority <= 9; priority++) {
                        x.addRecord(priority + 1, priority);
                    }
                    for (int priority = 0; priority <= 9; priority++) {
                        Check.is("from " + priority, x.backlog(priority), 55 - priority * (priority + 1) / 2);
                    }
                    x.setPriority(0, 9);
                    Check.is("with the first", x.backlog(9), 11);
                    PassLink y = new PassLink();
                    y.setMemory(960);
                    for (int n = 0; n < 40; n++) {
                        y.addRecord(24, 9);
                    }
                    Check.is("all there can be", y.backlog(9), 960);
                });
        Edges.holds("frames TO SEND", () -> {
            PassLink x = Scenes.steady(0, 1, 20);
            x.addRecord(21, 0);
            x.advance(1);
            Check.is("less those under way", x.backlog(0), 1);
            x.advance(100);
            Check.is("none is left", x.backlog(0), 0);
        });
        Edges.holds("Throws `IllegalArgumentException` if priority is out of range", () -> {
            Edges.refuses(Edges.ARGUMENT, l -> l.backlog(-1), ANY);
            Edges.refuses(Edges.ARGUMENT, l -> l.backlog(10), ANY);
        });
    }

    private static void oldestRecord() {
        Edges.promise(33);
        Edges.holds("Returns the record that is not released and was added at the earliest time, of several the lowest"
                + " number", () -> {
            PassLink x = Scenes.steady(0, 1, 1);
            x.addRecord(1, 0);
            x.addRecord(1, 9);
            Check.is("both at 0", x.oldestRecord(), 0);
            x.advance(50);
            x.addRecord(1, 0);
            x.advance(51);
            Check.is("1 is released", x.releasedAt(1), 100);
            Check.is("0 is not", x.oldestRecord(), 0);
            x.advance(100);
            Check.is("2 is left", x.oldestRecord(), 2);
        });
        Edges.holds("NONE if all are released.", () -> {
            Check.is("no records", new PassLink().oldestRecord(), -1);
            PassLink x = Scenes.steady(0, 1, 1);
            x.addRecord(1, 0);
            x.advance(100);
            Check.is("delivered", x.oldestRecord(), 0);
            x.advance(1);
            Check.is("released", x.oldestRecord(), -1);
        });
    }

    private static void memoryInUse() {
        Edges.promise(34);
        Edges.holds("Returns the sum of the sizes of all records that are not released.", () -> {
            PassLink x = Scenes.steady(0, 2, 20);
            Check.is("none", x.memoryInUse(), 0);
            x.addRecord(1, 5);
            x.addRecord(24, 4);
            Check.is("both", x.memoryInUse(), 25);
            x.addRecord(24, 0);
            x.advance(100);
            Check.is("delivered ones too", x.memoryInUse(), 49);
            x.advance(1);
            Check.is("the last one alone", x.memoryInUse(), 24);
            x.advance(100);
            Check.is("nothing", x.memoryInUse(), 0);
            PassLink y = new PassLink();
            y.setMemory(960);
            for (int n = 0; n < 40; n++) {
                y.addRecord(24, 0);
            }
            Check.is("all there can be", y.memoryInUse(), 960);
        });
    }
}
