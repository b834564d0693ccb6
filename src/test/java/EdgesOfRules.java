/** Sentences of the promises 1 to 11: a new object, the orbit, the stations and the rules. */
final class EdgesOfRules {
    private EdgesOfRules() {
    }

    static void hold() {
        newObject();
        setOrbit();
        addStation();
        refusedStations();
        setLoss();
        setGroundDelay();
        setPatience();
        setFresh();
        setMemory();
        setPolicy();
        setSeed();
    }

    private static void newObject() {
        Edges.promise(1);
        Edges.holds("Creates a simulator at the time 0", () -> Check.is("time", new PassLink().time(), 0));
        Edges.holds("without stations, records and contacts", () -> {
            PassLink x = new PassLink();
            Check.is("stations", x.stationCount(), 0);
            Check.is("records", x.recordCount(), 0);
            Check.is("contacts", x.contactCount(), 0);
            Check.is("present", x.presentStation(), -1);
            Check.is("station 0", Check.thrownBy(x, l -> l.lastContact(0)), "IndexOutOfBoundsException");
            Check.is("record 0", Check.thrownBy(x, l -> l.urgency(0)), "IndexOutOfBoundsException");
            Check.is("contact 0", Check.thrownBy(x, l -> l.contactStation(0)), "IndexOutOfBoundsException");
            Check.is("in use", x.memoryInUse(), 0);
        });
        Edges.holds("with an empty text buffer", () -> {
            Check.is("cut to 0", new PassLink().truncateText(0), 0);
            Check.is("cut to 1", Check.thrownBy(new PassLink(), l -> l.truncateText(1)), "IllegalArgumentException");
            Check.is("appended", new PassLink().appendText(0), 4);
            Check.is("statements", new PassLink().load(), 0);
        });
        Edges.holds("no saved states", () -> {
            Edges.refuses(Edges.STATE, l -> l.restore(0), Scenes.EMPTY);
            Edges.refuses(Edges.STATE, l -> l.restore(1), Scenes.EMPTY);
        });
    }

    /** A station at the longitude, so narrow that it sees only what is right above it. */
    private static PassLink narrow(int longitude) {
        PassLink x = new PassLink();
        x.addStation(longitude, 0, 5, 0, 1, 0);
        return x;
    }

    private static void setOrbit() {
        Edges.promise(2);
        Edges.holds("Sets the orbit.", () -> {
            PassLink x = narrow(17);
            x.setOrbit(77, 9, 8);
            Check.is("orbit 0", x.passBegin(0, 0), -1);
            Check.is("orbit 1", x.passBegin(0, 1), 77);
        });
        Edges.limits("`period`: 60 to 200", Edges.ARGUMENT, 60, 200, (l, v) -> l.setOrbit(v, 7, 7),
                Scenes.EMPTY, Scenes.BUSY, Scenes.FULL);
        Edges.limits("`shift`: 0 to 359", Edges.ARGUMENT, 0, 359, (l, v) -> l.setOrbit(77, v, 7),
                Scenes.EMPTY, Scenes.BUSY, Scenes.FULL);
        Edges.limits("`node`: 0 to 359", Edges.ARGUMENT, 0, 359, (l, v) -> l.setOrbit(77, 7, v),
                Scenes.EMPTY, Scenes.BUSY, Scenes.FULL);
        Edges.holds("`period`: 60 to 200", () -> {
            for (int period = 60; period <= 200; period++) {
                PassLink x = narrow(0);
                x.setOrbit(period, 0, 0);
                Check.is("orbit 1 by " + period, x.passBegin(0, 1), period);
                Check.is("orbit 999 by " + period, x.passBegin(0, 999), 999 * period);
            }
        });
        Edges.holds("`shift`: 0 to 359", () -> {
            for (int shift = 0; shift <= 359; shift++) {
                PassLink x = narrow(shift);
                x.setOrbit(60, shift, 0);
                Check.is("orbit 1 by " + shift, x.passBegin(0, 1), 60);
                Check.is("orbit 0 by " + shift, x.passBegin(0, 0), shift == 0 ? 0 : -1);
            }
        });
        Edges.holds("`node`: 0 to 359", () -> {
            for (int node = 0; node <= 359; node++) {
                PassLink x = narrow(node);
                x.setOrbit(60, 180, node);
                Check.is("orbit 0 by " + node, x.passBegin(0, 0), 0);
                Check.is("orbit 1 by " + node, x.passBegin(0, 1), -1);
                Check.is("orbit 2 by " + node, x.passBegin(0, 2), 120);
            }
        });
        Edges.holds("Returns the previous period.", () -> {
            PassLink x = new PassLink();
            Check.is("the first", x.setOrbit(60, 1, 2), 90);
            Check.is("the least", x.setOrbit(200, 3, 4), 60);
            Check.is("behind a refused call", Check.thrownBy(x, l -> l.setOrbit(201, 0, 0)), "IllegalArgumentException");
            Check.is("the greatest", x.setOrbit(90, 5, 6), 200);
        });
        Edges.holds("Throws `IllegalArgumentException` if an argument is out of range", () -> {
            Edges.refuses(Edges.ARGUMENT, l -> l.setOrbit(59, -1, 360), Scenes.EMPTY, Scenes.BUSY, Scenes.FULL);
            Edges.refuses(Edges.ARGUMENT, l -> l.setOrbit(201, 360, -1), Scenes.EMPTY, Scenes.BUSY, Scenes.FULL);
            Edges.refuses(Edges.ARGUMENT, l -> l.setOrbit(0, 0, 0), Scenes.EMPTY, Scenes.BUSY, Scenes.FULL);
        });
    }

    private static void addStation() {
        Edges.promise(3);
        Check.Scene[] open = {Scenes.EMPTY, Scenes.BUSY};
        Edges.limits("`longitude`: 0 to 359", Edges.ARGUMENT, 0, 359, (l, v) -> l.addStation(v, 1, 2, 3, 4, 5), open);
        Edges.limits("`reach`: 0 to 90", Edges.ARGUMENT, 0, 90, (l, v) -> l.addStation(1, v, 2, 3, 4, 5), open);
        Edges.limits("`length`: 1 to 30", Edges.ARGUMENT, 1, 30, (l, v) -> l.addStation(1, 2, v, 3, 4, 5), open);
        Edges.limits("`phase`: 0 to 59", Edges.ARGUMENT, 0, 59, (l, v) -> l.addStation(1, 2, 3, v, 4, 5), open);
        Edges.limits("`rate`: 1 to 20", Edges.ARGUMENT, 1, 20, (l, v) -> l.addStation(1, 2, 3, 4, v, 5), open);
        Edges.limits("`loss`: 0 to 99", Edges.ARGUMENT, 0, 99, (l, v) -> l.addStation(1, 2, 3, 4, 5, v), open);
        Edges.holds("Adds a station.", () -> {
            PassLink x = new PassLink();
            x.setOrbit(60, 1, 359);
            x.addStation(0, 2, 6, 7, 8, 9);
            Check.is("count", x.stationCount(), 1);
            Check.is("begin", x.passBegin(0, 0), 7);
            Check.is("end, 4 of 6", x.passEnd(0, 0), 11);
            Check.is("frames of the middle pass", x.passFrames(0, 1), 48);
            Check.is("loss", x.setLoss(0, 0), 9);
        });
        Edges.holds("`longitude`: 0 to 359", () -> {
            for (int longitude : new int[] {0, 1, 180, 358, 359}) {
                PassLink x = narrow(longitude);
                x.setOrbit(60, 1, 0);
                Check.is("the first pass over " + longitude, x.nextPass(0, 0), 60 * longitude);
            }
        });
        Edges.holds("`reach`: 0 to 90", () -> {
            for (int reach : new int[] {0, 1, 89, 90}) {
                PassLink x = new PassLink();
                x.setOrbit(60, 1, 0);
                x.addStation(100, reach, 30, 0, 1, 0);
                Check.is("the first pass by " + reach, x.nextPass(0, 0), 60 * (100 - reach));
                Check.is("the last pass by " + reach, x.nextPass(0, 60 * (100 + reach)), 60 * (100 + reach));
                Check.is("behind it by " + reach, x.nextPass(0, 60 * (100 + reach) + 1), 60 * (460 - reach));
            }
        });
        Edges.holds("`length`: 1 to 30", () -> {
            for (int length = 1; length <= 30; length++) {
                PassLink x = new PassLink();
                x.addStation(0, 90, length, 5, 1, 0);
                Check.is("end by " + length, x.passEnd(0, 0), 5 + length);
            }
        });
        Edges.holds("`phase`: 0 to 59", () -> {
            for (int phase = 0; phase <= 59; phase++) {
                PassLink x = new PassLink();
                x.addStation(0, 0, 1, phase, 1, 0);
                Check.is("begin by " + phase, x.passBegin(0, 0), phase);
                Check.is("table by " + phase, x.passTable(0, 0, 1), phase);
            }
        });
        Edges.holds("`rate`: 1 to 20", () -> {
            for (int rate = 1; rate <= 20; rate++) {
                PassLink x = new PassLink();
                x.addStation(0, 0, 1, 0, rate, 0);
                x.addRecord(24, 0);
                x.advance(1);
                Check.is("sent by " + rate, x.figure(0), rate);
            }
        });
        Edges.holds("`loss`: 0 to 99", () -> {
            for (int loss = 0; loss <= 99; loss++) {
                PassLink x = new PassLink();
                x.addStation(0, 0, 1, 0, 1, loss);
                Check.is("loss", x.setLoss(0, 0), loss);
            }
        });
        Edges.holds("Returns the number of the station.", () -> {
            PassLink x = new PassLink();
            for (int number = 0; number < 4; number++) {
                Check.is("number", x.addStation(90, 0, 1, 0, 1, 0), number);
                Check.is("between them", Check.thrownBy(x, l -> l.addStation(360, 0, 1, 0, 1, 0)),
                        "IllegalArgumentException");
            }
        });
    }

    private static void refusedStations() {
        int[] right = {1, 2, 3, 4, 5, 6};
        int[][] wrong = {{-1, 360}, {-1, 91}, {0, 31}, {-1, 60}, {0, 21}, {-1, 100}};
        Edges.holds("Throws `IllegalArgumentException` if an argument is out of range", () -> {
            for (int place = 0; place < 6; place++) {
                for (int value : wrong[place]) {
                    int[] v = right.clone();
                    v[place] = value;
                    // With 4 stations both exceptions apply, and this one comes first.
                    Edges.refuses(Edges.ARGUMENT, l -> l.addStation(v[0], v[1], v[2], v[3], v[4], v[5]),
                            Scenes.EMPTY, Scenes.BUSY, Scenes.FULL);
                }
            }
            Edges.refuses(Edges.ARGUMENT, l -> l.addStation(-1, -1, 0, -1, 0, -1),
                    Scenes.EMPTY, Scenes.BUSY, Scenes.FULL);
        });
        Edges.holds("Throws `IllegalStateException` if there are 4 stations", () -> {
            Edges.refuses(Edges.STATE, l -> l.addStation(0, 0, 1, 0, 1, 0), Scenes.FULL, Scenes.AT_THE_END);
            Edges.refuses(Edges.STATE, l -> l.addStation(359, 90, 30, 59, 20, 99), Scenes.FULL, Scenes.AT_THE_END);
            PassLink x = new PassLink();
            for (int n = 0; n < 3; n++) {
                x.addStation(0, 0, 1, 0, 1, 0);
            }
            Check.is("to 3", Check.thrownBy(x, l -> l.addStation(0, 0, 1, 0, 1, 0)), "nothing");
            Check.is("to 4", Check.thrownBy(x, l -> l.addStation(0, 0, 1, 0, 1, 0)), "IllegalStateException");
        });
        Edges.promise(4);
        Edges.holds("Returns the number of stations.", () -> {
            PassLink x = new PassLink();
            for (int count = 0; count < 4; count++) {
                Check.is("count", x.stationCount(), count);
                x.addStation(0, 0, 1, 0, 1, 0);
            }
            Check.is("all", x.stationCount(), 4);
            Check.thrownBy(x, l -> l.addStation(0, 0, 1, 0, 1, 0));
            Check.is("behind a refused one", x.stationCount(), 4);
            Check.load(x, "");
            Check.is("behind an empty setup", x.stationCount(), 0);
        });
    }

    private static void setLoss() {
        Edges.promise(5);
        Edges.holds("Sets the loss of a station.", () -> {
            // Seed 0 draws a 0, which only a loss of 0 does not lose.
            for (int loss = 0; loss <= 1; loss++) {
                PassLink x = Scenes.steady(0, 5, 1, 10, 5, 1);
                x.setLoss(0, loss);
                x.setLoss(1, 1 - loss);
                x.addRecord(1, 0);
                x.setSeed(0);
                x.advance(1);
                Check.is("lost by " + loss, x.figure(1), loss);
            }
        });
        Edges.limits("`station`: a station", Edges.INDEX, 0, -1, (l, v) -> l.setLoss(v, 50), Scenes.EMPTY);
        Edges.limits("`station`: a station", Edges.INDEX, 0, 1, (l, v) -> l.setLoss(v, 50), Scenes.BUSY);
        Edges.limits("`station`: a station", Edges.INDEX, 0, 3, (l, v) -> l.setLoss(v, 50), Scenes.FULL);
        Edges.limits("`loss`: 0 to 99", Edges.ARGUMENT, 0, 99, (l, v) -> l.setLoss(0, v), Scenes.BUSY, Scenes.FULL);
        Edges.limits("`loss`: 0 to 99", Edges.ARGUMENT, 0, 99, (l, v) -> l.setLoss(1, v), Scenes.BUSY, Scenes.FULL);
        Edges.holds("Returns the previous loss.", () -> {
            PassLink x = new PassLink();
            x.addStation(0, 0, 1, 0, 1, 99);
            x.addStation(0, 0, 1, 0, 1, 1);
            Check.is("of the first", x.setLoss(0, 0), 99);
            Check.is("of the other", x.setLoss(1, 2), 1);
            Check.is("behind a refused call", Check.thrownBy(x, l -> l.setLoss(0, 100)), "IllegalArgumentException");
            Check.is("again", x.setLoss(0, 5), 0);
        });
        Edges.holds("Throws `IndexOutOfBoundsException` if there is no such station", () -> {
            for (int loss : new int[] {-1, 0, 99, 100}) {
                Edges.refuses(Edges.INDEX, l -> l.setLoss(0, loss), Scenes.EMPTY);
                Edges.refuses(Edges.INDEX, l -> l.setLoss(2, loss), Scenes.BUSY);
                Edges.refuses(Edges.INDEX, l -> l.setLoss(4, loss), Scenes.FULL);
                Edges.refuses(Edges.INDEX, l -> l.setLoss(-1, loss), Scenes.EMPTY, Scenes.BUSY, Scenes.FULL);
            }
        });
        Edges.holds("Throws `IllegalArgumentException` if loss is out of range", () -> {
            Edges.refuses(Edges.ARGUMENT, l -> l.setLoss(0, -1), Scenes.BUSY, Scenes.FULL);
            Edges.refuses(Edges.ARGUMENT, l -> l.setLoss(1, 100), Scenes.BUSY, Scenes.FULL);
        });
    }

    private static void setGroundDelay() {
        Edges.promise(6);
        Edges.limits("`minutes`: 0 to 999", Edges.ARGUMENT, 0, 999, PassLink::setGroundDelay,
                Scenes.EMPTY, Scenes.BUSY, Scenes.FULL);
        Edges.holds("Sets the ground delay.", () -> {
            // The contact at 0 ends 49 minutes ahead of the one at 50.
            for (int delay = 48; delay <= 50; delay++) {
                PassLink x = Scenes.steady(0, 1, 1, 50, 1, 1);
                x.setGroundDelay(delay);
                x.advance(51);
                Check.is("report by " + delay, x.reportState(0), delay <= 49 ? 2 : 0);
            }
        });
        Edges.holds("Returns the previous one.", () -> {
            PassLink x = new PassLink();
            Check.is("the first", x.setGroundDelay(0), 60);
            Check.is("the least", x.setGroundDelay(999), 0);
            Check.is("the greatest", x.setGroundDelay(7), 999);
        });
        Edges.holds("Throws `IllegalArgumentException` if minutes is out of range", () -> {
            Edges.refuses(Edges.ARGUMENT, l -> l.setGroundDelay(-1), Scenes.EMPTY, Scenes.BUSY, Scenes.FULL);
            Edges.refuses(Edges.ARGUMENT, l -> l.setGroundDelay(1000), Scenes.EMPTY, Scenes.BUSY, Scenes.FULL);
        });
    }

    private static void setPatience() {
        Edges.promise(7);
        Edges.limits("`minutes`: 1 to 9999", Edges.ARGUMENT, 1, 9999, PassLink::setPatience,
                Scenes.EMPTY, Scenes.BUSY, Scenes.FULL);
        Edges.holds("Sets the patience.", () -> {
            for (int patience = 48; patience <= 50; patience++) {
                PassLink x = Scenes.steady(0, 1, 1, 50, 1, 1);
                x.setGroundDelay(999);
                x.setPatience(patience);
                x.advance(51);
                Check.is("given up by " + patience, x.reportState(0), patience <= 49 ? 1 : 0);
            }
        });
        Edges.holds("Returns the previous one.", () -> {
            PassLink x = new PassLink();
            Check.is("the first", x.setPatience(1), 1000);
            Check.is("the least", x.setPatience(9999), 1);
            Check.is("the greatest", x.setPatience(7), 9999);
        });
        Edges.holds("Throws `IllegalArgumentException` if minutes is out of range", () -> {
            Edges.refuses(Edges.ARGUMENT, l -> l.setPatience(0), Scenes.EMPTY, Scenes.BUSY, Scenes.FULL);
            Edges.refuses(Edges.ARGUMENT, l -> l.setPatience(10000), Scenes.EMPTY, Scenes.BUSY, Scenes.FULL);
        });
    }

    private static void setFresh() {
        Edges.promise(8);
        Edges.limits("`limit`: 0 to 999", Edges.ARGUMENT, 0, 999, (l, v) -> l.setFresh(v, 4),
                Scenes.EMPTY, Scenes.BUSY, Scenes.FULL);
        Edges.limits("`bonus`: 0 to 9", Edges.ARGUMENT, 0, 9, (l, v) -> l.setFresh(4, v),
                Scenes.EMPTY, Scenes.BUSY, Scenes.FULL);
        Edges.holds("Sets the fresh limit and the bonus.", () -> {
            for (int[] pair : new int[][] {{0, 0}, {0, 9}, {999, 0}, {999, 9}, {1, 4}}) {
                PassLink x = new PassLink();
                x.addRecord(1, 3);
                x.setFresh(pair[0], pair[1]);
                x.advance(Math.max(1, pair[0]));
                Check.is("at the limit " + pair[0], x.urgency(0), pair[0] == 0 ? 3 : 3 + pair[1]);
                x.advance(1);
                Check.is("behind the limit " + pair[0], x.urgency(0), 3);
            }
        });
        Edges.holds("Returns 10 times the previous limit plus the previous bonus.", () -> {
            PassLink x = new PassLink();
            Check.is("the first", x.setFresh(0, 0), 305);
            Check.is("the least", x.setFresh(999, 9), 0);
            Check.is("the greatest", x.setFresh(0, 9), 9999);
            Check.is("the bonus alone", x.setFresh(999, 0), 9);
            Check.is("the limit alone", x.setFresh(1, 1), 9990);
        });
        Edges.holds("Throws `IllegalArgumentException` if an argument is out of range", () -> {
            int[][] wrong = {{-1, 0}, {1000, 9}, {0, -1}, {999, 10}, {-1, 10}, {1000, -1}};
            for (int[] w : wrong) {
                Edges.refuses(Edges.ARGUMENT, l -> l.setFresh(w[0], w[1]), Scenes.EMPTY, Scenes.BUSY, Scenes.FULL);
            }
        });
    }

    private static void setMemory() {
        Edges.promise(9);
        Edges.limits("`frames`: 24 to 960", Edges.ARGUMENT, 24, 960, PassLink::setMemory, Scenes.EMPTY);
        Edges.holds("Sets the memory.", () -> {
            PassLink x = new PassLink();
            x.setMemory(24);
            x.addRecord(24, 0);
            Check.is("a frame too much", Check.thrownBy(x, l -> l.addRecord(1, 0)), "IllegalStateException");
            x.setMemory(25);
            Check.is("the last frame", x.addRecord(1, 0), 1);
            x.setMemory(960);
            for (int n = 0; n < 38; n++) {
                x.addRecord(24, 0);
            }
            Check.is("in use", x.memoryInUse(), 25 + 38 * 24);
        });
        Edges.holds("Returns the previous memory.", () -> {
            PassLink x = new PassLink();
            Check.is("the first", x.setMemory(24), 300);
            Check.is("the least", x.setMemory(960), 24);
            Check.is("the greatest", x.setMemory(300), 960);
        });
        Edges.holds("Throws `IllegalArgumentException` if frames is out of range", () -> {
            // Where more than 23 frames are in use, both exceptions apply to 23, and this one comes first.
            Check.is("in use", Scenes.busy().memoryInUse() > 24 && Scenes.full().memoryInUse() > 24, true);
            Edges.refuses(Edges.ARGUMENT, l -> l.setMemory(23), Scenes.EMPTY, Scenes.BUSY, Scenes.FULL);
            Edges.refuses(Edges.ARGUMENT, l -> l.setMemory(961), Scenes.EMPTY, Scenes.BUSY, Scenes.FULL);
            Edges.refuses(Edges.ARGUMENT, l -> l.setMemory(0), Scenes.EMPTY, Scenes.BUSY, Scenes.FULL);
        });
        Edges.holds("Throws `IllegalStateException` if more frames are in use", () -> {
            Edges.refuses(Edges.STATE, l -> l.setMemory(l.memoryInUse() - 1), Scenes.BUSY, Scenes.FULL);
            Edges.refuses(Edges.STATE, l -> l.setMemory(24), Scenes.BUSY, Scenes.FULL);
            PassLink x = Scenes.steady(0, 1, 20);
            x.addRecord(20, 0);
            x.addRecord(5, 0);
            Check.is("as many as are in use", Check.thrownBy(x, l -> l.setMemory(25)), "nothing");
            Check.is("one less", Check.thrownBy(x, l -> l.setMemory(24)), "IllegalStateException");
            x.advance(101);
            Check.is("one is released", x.memoryInUse(), 5);
            Check.is("then it is enough", x.setMemory(24), 25);
        });
    }

    private static void setPolicy() {
        Edges.promise(10);
        Edges.limits("`policy`: 0 or 1", Edges.ARGUMENT, 0, 1, PassLink::setPolicy,
                Scenes.EMPTY, Scenes.BUSY, Scenes.FULL);
        Edges.holds("Sets the policy by which stations are chosen.", () -> {
            for (int policy = 0; policy <= 1; policy++) {
                PassLink x = Scenes.steady(0, 10, 1, 5, 15, 1);
                x.setPolicy(policy);
                x.advance(6);
                Check.is("station by " + policy, x.presentStation(), policy);
            }
        });
        Edges.holds("Returns the previous policy.", () -> {
            PassLink x = new PassLink();
            Check.is("the first", x.setPolicy(1), 0);
            Check.is("the other", x.setPolicy(1), 1);
            Check.is("again", x.setPolicy(0), 1);
        });
        Edges.holds("Throws `IllegalArgumentException` if policy is out of range", () -> {
            Edges.refuses(Edges.ARGUMENT, l -> l.setPolicy(-1), Scenes.EMPTY, Scenes.BUSY, Scenes.FULL);
            Edges.refuses(Edges.ARGUMENT, l -> l.setPolicy(2), Scenes.EMPTY, Scenes.BUSY, Scenes.FULL);
        });
    }

    private static void setSeed() {
        Edges.promise(11);
        Edges.limits("`seed`: 0 to 2147483647", Edges.ARGUMENT, 0, 2147483647, PassLink::setSeed,
                Scenes.EMPTY, Scenes.BUSY, Scenes.FULL);
        Edges.holds("Sets the state of the random generator.", () -> {
            for (int seed : new int[] {0, 1, 2, 65535, 65536, 1073741823, 1073741824, 2147483646, 2147483647}) {
                Check.is("draws from " + seed, Draws.seen(seed, 24), Draws.due(seed, 24));
            }
            PassLink x = Draws.ready();
            x.setSeed(77);
            x.setSeed(5);
            x.advance(2);
            Check.is("the latest one counts", Integer.toBinaryString(x.frames(0, 3)), Draws.due(5, 24));
        });
        Edges.holds("Throws `IllegalArgumentException` if seed is negative", () -> {
            Edges.refuses(Edges.ARGUMENT, l -> l.setSeed(-1), Scenes.EMPTY, Scenes.BUSY, Scenes.FULL);
            Edges.refuses(Edges.ARGUMENT, l -> l.setSeed(Integer.MIN_VALUE), Scenes.EMPTY, Scenes.BUSY, Scenes.FULL);
        });
    }
}
