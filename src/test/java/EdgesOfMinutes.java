/** Sentences of the terms: records, contacts with the four steps of a minute, archive and random numbers. */
final class EdgesOfMinutes {
    private EdgesOfMinutes() {
    }

    static void hold() {
        Edges.terms();
        records();
        memory();
        freshness();
        nextRecord();
        contacts();
        choice();
        endsAndBegins();
        forgetting();
        reports();
        acknowledging();
        givingUp();
        sending();
        theEndOfTime();
        archive();
        randomNumbers();
    }

    private static void records() {
        Edges.holds("There are at most 40 records, numbered from 0.", () -> {
            PassLink x = new PassLink();
            for (int number = 0; number < 40; number++) {
                Check.is("number", x.addRecord(1, number % 10), number);
            }
            Check.is("a 41st", Check.thrownBy(x, l -> l.addRecord(1, 0)), "IllegalStateException");
            Check.is("the last", x.urgency(39), 14);
        });
        Edges.limits("A record has a size (1 to 24 frames, numbered from 0)", Edges.ARGUMENT, 1, 24,
                (l, v) -> l.addRecord(v, 0), Scenes.EMPTY);
        Edges.limits("a priority (0 to 9)", Edges.ARGUMENT, 0, 9, (l, v) -> l.addRecord(1, v), Scenes.EMPTY);
        Edges.holds("numbered from 0)", () -> {
            PassLink x = Scenes.steady(0, 30, 1);
            x.addRecord(24, 0);
            x.advance(1);
            Check.is("frame 0 is the first", x.sentIn(0, 0), 0);
            x.advance(22);
            Check.is("frame 23 is not sent yet", x.sentIn(0, 23), -1);
            x.advance(1);
            Check.is("frame 23 is the last", x.sentIn(0, 23), 0);
            Check.is("frame 24", Check.thrownBy(x, l -> l.sentIn(0, 24)), "IndexOutOfBoundsException");
        });
        Edges.holds("and the time at which it was added.", () -> {
            PassLink x = Scenes.steady(50, 1, 2);
            x.addRecord(1, 0);
            x.advance(50);
            x.addRecord(1, 0);
            x.advance(1);
            Check.is("delays of 50 and 0", x.meanDelayNumerator(), 25);
        });
        Edges.holds("Each of its frames is in one of these states on board: TO SEND (at first), UNDER WAY (sent, but its"
                + " fate is not known), or ACKNOWLEDGED.", () -> {
            PassLink x = Scenes.steady(0, 2, 3, 50, 1, 2);
            x.setLoss(0, 60);
            x.setLoss(1, 60);
            x.setPatience(40);
            x.addRecord(24, 0);
            Check.is("all to send", x.frames(0, 0), (1 << 24) - 1);
            for (int n = 0; n < 60; n++) {
                x.advance(10);
                int all = x.frames(0, 0) + x.frames(0, 1) + x.frames(0, 2);
                Check.is("one state each", all, (1 << 24) - 1);
                Check.is("no two states", x.frames(0, 0) & x.frames(0, 1), 0);
                Check.is("what is acknowledged is archived", x.frames(0, 2) & ~x.frames(0, 3), 0);
            }
        });
        Edges.holds("When all frames of a record are ACKNOWLEDGED, the record is released.", () -> {
            PassLink x = Scenes.steady(0, 1, 12);
            x.addRecord(24, 0);
            x.advance(200);
            Check.is("12 of 24", x.frames(0, 2), 0xfff);
            Check.is("not released", x.releasedAt(0), -1);
            x.advance(1);
            Check.is("24 of 24", x.frames(0, 2), 0xffffff);
            Check.is("released", x.releasedAt(0), 200);
        });
        Edges.holds("Sets of frames are reported as bit masks (bit k for frame k).", () -> {
            for (int frames = 1; frames <= 20; frames++) {
                PassLink x = Scenes.steady(0, 1, frames);
                x.addRecord(24, 0);
                x.advance(1);
                Check.is("the frames below " + frames, x.frames(0, 1), (1 << frames) - 1);
                Check.is("the others", x.frames(0, 0), (1 << 24) - (1 << frames));
                Check.is("of the contact", x.contactFrames(0, 0, true), (1 << frames) - 1);
            }
        });
    }

    private static void memory() {
        Edges.limits("The memory (24 to 960 frames, 300 at first)", Edges.ARGUMENT, 24, 960, PassLink::setMemory,
                Scenes.EMPTY);
        Edges.holds("300 at first", () -> {
            PassLink x = new PassLink();
            for (int n = 0; n < 12; n++) {
                x.addRecord(24, 0);
            }
            Check.is("301", Check.thrownBy(x, l -> l.addRecord(13, 0)), "IllegalStateException");
            Check.is("300", Check.thrownBy(x, l -> l.addRecord(12, 0)), "nothing");
            Check.is("told", x.setMemory(960), 300);
        });
        Edges.holds("limits the sum of the sizes of all records that are not released.", () -> {
            PassLink x = Scenes.steady(0, 2, 20);
            x.setMemory(24);
            x.addRecord(24, 0);
            x.advance(100);
            Check.is("delivered, not released", Check.thrownBy(x, l -> l.addRecord(1, 0)), "IllegalStateException");
            x.advance(1);
            Check.is("released", x.addRecord(24, 0), 1);
            Check.is("full again", Check.thrownBy(x, l -> l.addRecord(1, 0)), "IllegalStateException");
            PassLink y = new PassLink();
            y.setMemory(960);
            for (int n = 0; n < 40; n++) {
                Check.is("the whole memory", y.addRecord(24, 0), n);
            }
        });
    }

    private static void freshness() {
        Edges.limits("A record is fresh as long as the present time minus the time at which it was added is at most the"
                + " fresh limit (0 to 999 minutes, 30 at first).", Edges.ARGUMENT, 0, 999, (l, v) -> l.setFresh(v, 0),
                Scenes.EMPTY);
        Edges.holds("30 at first", () -> {
            PassLink x = new PassLink();
            x.advance(3);
            x.addRecord(1, 0);
            x.advance(30);
            Check.is("30 minutes", x.urgency(0), 5);
            x.advance(1);
            Check.is("31 minutes", x.urgency(0), 0);
        });
        Edges.holds("is at most the fresh limit", () -> {
            for (int limit : new int[] {0, 1, 2, 998, 999}) {
                PassLink x = new PassLink();
                x.setFresh(limit, 5);
                x.advance(2);
                x.addRecord(1, 0);
                Check.is("at once by " + limit, x.urgency(0), 5);
                if (limit > 0) {
                    x.advance(limit);
                }
                Check.is("at the limit " + limit, x.urgency(0), 5);
                x.advance(1);
                Check.is("behind the limit " + limit, x.urgency(0), 0);
            }
        });
        Edges.limits("The urgency of a record is its priority, plus the bonus (0 to 9, 5 at first) if it is fresh.",
                Edges.ARGUMENT, 0, 9, (l, v) -> l.setFresh(0, v), Scenes.EMPTY);
        Edges.holds("5 at first", () -> {
            PassLink x = new PassLink();
            x.addRecord(1, 9);
            Check.is("fresh", x.urgency(0), 14);
            x.setFresh(30, 0);
            Check.is("no bonus", x.urgency(0), 9);
            x.setFresh(30, 9);
            Check.is("the greatest bonus", x.urgency(0), 18);
        });
    }

    private static void nextRecord() {
        Edges.holds("The next record is the one with the greatest urgency of those that have frames TO SEND", () -> {
            PassLink x = Scenes.steady(0, 30, 1);
            x.addRecord(1, 3);
            x.addRecord(1, 9);
            x.addRecord(1, 4);
            int[] order = {1, 2, 0, -1};
            for (int due : order) {
                Check.is("the next", x.nextRecord(), due);
                x.advance(1);
            }
            Check.is("in this order", x.deliveredAt(1) == 0 && x.deliveredAt(2) == 1 && x.deliveredAt(0) == 2, true);
        });
        Edges.holds("of several the one that was added at the earliest time, of several the lowest number.", () -> {
            PassLink x = new PassLink();
            x.addRecord(1, 5);
            x.addRecord(1, 5);
            Check.is("both at 0", x.nextRecord(), 0);
            x.advance(31);
            x.addRecord(1, 0);
            // 5 and 5 without a bonus, 0 and 5 with it: the same urgency.
            Check.is("the earliest", x.nextRecord(), 0);
            x.setPriority(0, 4);
            Check.is("the earliest of the others", x.nextRecord(), 1);
            x.setPriority(1, 4);
            Check.is("the urgent one", x.nextRecord(), 2);
            x.addRecord(1, 0);
            Check.is("added at the same time", x.nextRecord(), 2);
        });
    }

    private static void contacts() {
        Edges.holds("The satellite talks to at most one station in each minute.", () -> {
            for (int policy = 0; policy <= 1; policy++) {
                PassLink x = Scenes.steady(0, 10, 1, 0, 12, 1, 3, 5, 1, 4, 30, 1);
                x.setPolicy(policy);
                x.addRecord(24, 0);
                for (int minute = 1; minute <= 24; minute++) {
                    x.advance(1);
                    int minutes = 0;
                    for (int station = 0; station < 4; station++) {
                        minutes += x.stationFigure(station, 1);
                    }
                    Check.is("minutes in contact", minutes, minute);
                    Check.is("frames sent", x.figure(0), minute);
                }
            }
        });
        Edges.holds("A contact consists of minutes that follow each other and in which it talks to the same station.",
                () -> {
                    PassLink x = Scenes.steady(0, 10, 1);
                    x.advance(4);
                    Check.is("one", x.contactCount(), 1);
                    x.setOrbit(100, 0, 1);
                    x.advance(1);
                    x.setOrbit(100, 0, 0);
                    x.advance(1);
                    Check.is("a minute between", x.contactCount(), 2);
                    Check.is("the first", x.contactEnd(0), 4);
                    Check.is("the second", x.contactBegin(1), 5);
                });
        Edges.holds("Contacts are numbered from 0.", () -> {
            PassLink x = Scenes.steady(0, 1, 1);
            x.advance(101);
            Check.is("the first", x.contactBegin(0), 0);
            Check.is("the second", x.contactBegin(1), 100);
        });
        Edges.holds("The latest 60 contacts are kept.", () -> {
            PassLink x = Scenes.steady(0, 1, 1);
            for (int contact = 0; contact < 125; contact++) {
                x.advance(100);
                int oldest = Math.max(0, contact - 59);
                Check.is("the latest", x.contactBegin(contact), 100 * contact);
                Check.is("the oldest", x.contactBegin(oldest), 100 * oldest);
                Check.is("the one before", Check.thrownBy(x, l -> l.contactBegin(oldest - 1)), "IndexOutOfBoundsException");
            }
        });
        Edges.holds("The frames that were sent in a contact and those of them that were received are noted in it.", () -> {
            PassLink x = Scenes.steady(0, 1, 3);
            x.addRecord(5, 0);
            x.setLoss(0, 1);
            x.setSeed(Draws.before(Draws.before(0)));
            x.advance(1);
            x.setLoss(0, 0);
            x.advance(100);
            Check.is("sent", x.contactFrames(0, 0, false), 7);
            Check.is("received", x.contactFrames(0, 0, true), 1);
            Check.is("sent later", x.contactFrames(1, 0, false), 14);
            Check.is("received later", x.contactFrames(1, 0, true), 14);
        });
        Edges.holds("A contact that has ended has a report (of the frames that were received in it), which the satellite"
                + " gets at the beginning of a later contact.", () -> {
            PassLink x = Scenes.steady(0, 3, 1);
            x.setGroundDelay(0);
            x.addRecord(2, 0);
            x.advance(100);
            Check.is("no later contact", x.reportState(0), 0);
            Check.is("not known", x.frames(0, 1), 3);
            x.advance(1);
            Check.is("at its beginning", x.reportState(0), 2);
            Check.is("known", x.frames(0, 2), 3);
            Check.is("the present one has none", x.reportState(1), 0);
            x.advance(2);
            Check.is("not in its later minutes", x.reportState(1), 0);
        });
        Edges.holds("Each minute t takes place like this:", () -> {
            // Step 3 comes ahead of step 4: what the report tells lost goes in the same minute.
            PassLink x = Scenes.steady(0, 1, 1);
            x.addRecord(1, 0);
            x.setLoss(0, 1);
            x.setSeed(0);
            x.advance(1);
            x.setLoss(0, 0);
            x.advance(100);
            Check.is("delivered", x.deliveredAt(0), 100);
        });
    }

    private static void choice() {
        Edges.holds("The station of the minute is chosen among the visible ones.", () -> {
            PassLink x = Scenes.steady(10, 5, 1, 30, 5, 1);
            x.advance(10);
            Check.is("none yet", x.presentStation(), -1);
            x.advance(1);
            Check.is("the visible one", x.presentStation(), 0);
            x.advance(5);
            Check.is("none", x.presentStation(), -1);
            x.advance(15);
            Check.is("the other", x.presentStation(), 1);
        });
        Edges.holds("By the policy 0 (STAY, at first), it is the station of the present contact, as long as this is"
                + " visible", () -> {
            PassLink x = Scenes.steady(0, 10, 1, 1, 30, 1);
            x.advance(10);
            Check.is("its last minute", x.presentStation(), 0);
            x.advance(1);
            Check.is("the minute behind", x.presentStation(), 1);
            PassLink y = Scenes.steady(0, 10, 1, 1, 30, 1);
            y.setPolicy(0);
            y.advance(10);
            Check.is("set, it is the same", y.presentStation(), 0);
        });
        Edges.holds("otherwise the one whose pass ends last.", () -> {
            PassLink x = Scenes.steady(0, 11, 1, 0, 12, 1, 0, 10, 1);
            x.advance(1);
            Check.is("at the beginning", x.presentStation(), 1);
            PassLink y = Scenes.steady(0, 12, 1, 5, 8, 1, 5, 10, 1, 5, 9, 1);
            y.advance(13);
            Check.is("behind the present one", y.presentStation(), 2);
        });
        Edges.holds("By the policy 1 (LONGEST), it is always the one whose pass ends last.", () -> {
            PassLink x = Scenes.steady(0, 10, 1, 5, 6, 1, 7, 1, 1);
            x.setPolicy(1);
            x.advance(5);
            Check.is("before", x.presentStation(), 0);
            x.advance(1);
            Check.is("at once", x.presentStation(), 1);
            x.advance(2);
            Check.is("not one that ends earlier", x.presentStation(), 1);
        });
        Edges.holds("Of several stations that end last, it is the station of the present contact, if it is one of them,"
                + " otherwise the lowest one.", () -> {
            PassLink x = Scenes.steady(5, 5, 1, 0, 10, 1, 5, 5, 1);
            x.setPolicy(1);
            x.advance(10);
            Check.is("the present one", x.presentStation(), 1);
            Check.is("one contact", x.contactCount(), 1);
            PassLink y = Scenes.steady(0, 4, 1, 2, 10, 1, 2, 10, 1, 2, 10, 1);
            y.setPolicy(1);
            y.advance(3);
            Check.is("the lowest", y.presentStation(), 1);
            PassLink z = Scenes.steady(0, 4, 1, 2, 10, 1, 2, 10, 1, 2, 10, 1);
            z.advance(5);
            Check.is("the lowest by STAY", z.presentStation(), 1);
            PassLink w = Scenes.steady(0, 10, 1, 0, 10, 1, 0, 10, 1, 0, 10, 1);
            w.advance(1);
            Check.is("the lowest at the beginning", w.presentStation(), 0);
            // Of a station and another that was added later, the present one stays though it is the higher.
            PassLink v = Scenes.steady(1, 9, 1, 0, 10, 1);
            v.setPolicy(1);
            v.advance(2);
            Check.is("though it is the higher", v.presentStation(), 1);
        });
    }

    private static void endsAndBegins() {
        Edges.holds("If there is a present contact, and its station is not the chosen one (or none is visible), the"
                + " contact ends at the time t.", () -> {
            PassLink x = Scenes.steady(0, 3, 1, 3, 3, 1);
            x.advance(3);
            Check.is("not yet", x.contactEnd(0), -1);
            x.advance(1);
            Check.is("another is chosen", x.contactEnd(0), 3);
            x.advance(2);
            Check.is("not yet", x.contactEnd(1), -1);
            x.advance(1);
            Check.is("none is visible", x.contactEnd(1), 6);
            Check.is("none is present", x.presentStation(), -1);
        });
        Edges.holds("If a station is chosen and there is no present contact then, a new contact with it begins at the time"
                + " t.", () -> {
            PassLink x = Scenes.steady(0, 3, 1, 3, 3, 1);
            x.advance(4);
            Check.is("at once behind the other", x.contactBegin(1), 3);
            Check.is("with it", x.contactStation(1), 1);
            x.advance(97);
            Check.is("behind a pause", x.contactBegin(2), 100);
            Check.is("three", x.contactCount(), 3);
            x.advance(2);
            Check.is("still three", x.contactCount(), 3);
        });
    }

    /**
     * Contact 0 is with station 0, seen at the node 0; then contacts with station 1, seen at the node 180, while
     * no report arrives by the ground delay. This many contacts, and none is present.
     */
    private static PassLink piled(int contacts) {
        PassLink x = new PassLink();
        x.setOrbit(200, 0, 0);
        x.addStation(0, 0, 30, 0, 2, 0);
        x.addStation(180, 0, 30, 0, 1, 0);
        x.setGroundDelay(999);
        x.setPatience(9999);
        x.addRecord(2, 0);
        x.advance(1);
        x.setOrbit(200, 0, 90);
        x.advance(1);
        for (int n = 1; n < contacts; n++) {
            x.setOrbit(200, 0, 180);
            x.advance(1);
            x.setOrbit(200, 0, 90);
            // Both are seen in the first 30 minutes of an orbit of 200.
            int minute = x.time() % 200;
            x.advance(minute > 28 ? 200 - minute : 1);
        }
        return x;
    }

    private static void forgetting() {
        Edges.holds("If 60 contacts are kept already, the oldest one is forgotten: those of its frames that are UNDER WAY"
                + " and were sent in it last are TO SEND again, and its report never arrives.", () -> {
            PassLink x = piled(59);
            Check.is("59", x.contactCount(), 59);
            x.setOrbit(200, 0, 180);
            x.advance(1);
            Check.is("60 are kept", x.contactBegin(0), 0);
            Check.is("under way", x.frames(0, 1), 3);
            Check.is("nothing is sent", x.figure(0), 2);
            PassLink y = piled(60);
            Check.is("60", y.contactCount(), 60);
            y.setOrbit(200, 0, 180);
            y.advance(1);
            Check.is("the oldest", Check.thrownBy(y, l -> l.contactBegin(0)), "IndexOutOfBoundsException");
            Check.is("the next one", y.contactStation(1), 1);
            Check.is("one frame is sent again", y.frames(0, 1), 1);
            Check.is("one is to send", y.frames(0, 0), 2);
            Check.is("no report, none given up", y.figure(6) + y.figure(7), y.contactCount() - 2);
        });
        Edges.holds("and its report never arrives.", () -> {
            // The 61st contact is with the station of the oldest, which is forgotten ahead of the reports.
            PassLink x = piled(60);
            x.setOrbit(200, 0, 0);
            x.advance(1);
            Check.is("with station 0", x.presentStation(), 0);
            Check.is("nothing is acknowledged", x.frames(0, 2), 0);
            Check.is("all is sent again", x.sentIn(0, 1), 60);
            Check.is("as duplicates", x.figure(2), 2);
            // With 59 contacts before, it is still there.
            PassLink y = piled(59);
            y.setOrbit(200, 0, 0);
            y.advance(1);
            Check.is("acknowledged", y.frames(0, 2), 3);
            Check.is("no duplicates", y.figure(2), 0);
        });
        Edges.holds("those of its frames that are UNDER WAY and were sent in it last are TO SEND again", () -> {
            // Frame 0 is given up, is sent again in contact 59, and is under way there when contact 0 is forgotten.
            PassLink x = piled(59);
            x.setPatience(1);
            x.setOrbit(200, 0, 180);
            x.advance(1);
            Check.is("given up", x.reportState(0), 1);
            Check.is("sent again in contact 59", x.sentIn(0, 0), 59);
            x.setPatience(9999);
            x.addStation(45, 0, 30, 0, 1, 0);
            x.addRecord(1, 9);
            x.setOrbit(200, 0, 45);
            x.advance(1);
            Check.is("contact 0 is forgotten", Check.thrownBy(x, l -> l.contactBegin(0)), "IndexOutOfBoundsException");
            Check.is("frame 0 stays under way", x.frames(0, 1), 1);
            Check.is("frame 1 is to send", x.frames(0, 0), 2);
            // What is acknowledged stays so.
            PassLink y = Scenes.steady(0, 1, 1);
            y.addRecord(1, 0);
            for (int n = 0; n < 61; n++) {
                y.advance(100);
            }
            Check.is("forgotten", Check.thrownBy(y, l -> l.contactBegin(0)), "IndexOutOfBoundsException");
            Check.is("acknowledged", y.frames(0, 2), 1);
            Check.is("sent once", y.figure(0), 1);
        });
    }

    private static void reports() {
        Edges.holds("Then the satellite gets reports: of each kept contact that has ended and whose report it has not got,"
                + " in the order of their numbers, if it was with the same station", () -> {
            PassLink x = Scenes.steady(0, 1, 1, 10, 1, 1);
            x.setGroundDelay(999);
            x.advance(11);
            Check.is("not of the other station", x.reportState(0), 0);
            x.advance(90);
            Check.is("of the same", x.reportState(0), 2);
            Check.is("not of the other", x.reportState(1), 0);
            Check.is("one", x.figure(6), 1);
            x.advance(10);
            Check.is("of the same", x.reportState(1), 2);
            Check.is("not of the other", x.reportState(2), 0);
            x.advance(90);
            Check.is("each once", x.figure(6), 3);
        });
        Edges.limits("if it ended at least the ground delay (0 to 999 minutes, 60 at first) ago.", Edges.ARGUMENT, 0, 999,
                PassLink::setGroundDelay, Scenes.EMPTY);
        Edges.holds("60 at first", () -> {
            // Contact 0 ends at 1, or at 2, and the other station is seen at 61.
            for (int end = 1; end <= 2; end++) {
                PassLink x = new PassLink();
                x.setOrbit(61, 180, 0);
                x.addStation(0, 0, end, 0, 1, 0);
                x.addStation(180, 0, 1, 0, 1, 0);
                x.advance(62);
                Check.is("with the other", x.presentStation(), 1);
                Check.is("ended at " + end, x.reportState(0), end == 1 ? 2 : 0);
            }
            Check.is("told", new PassLink().setGroundDelay(0), 60);
        });
        Edges.holds("at least the ground delay", () -> {
            // Orbits 0 and 5 of 200 minutes: from the end at 1 to 1000 there are 999 minutes, from 2 there are 998.
            for (int end = 1; end <= 2; end++) {
                for (int delay = 998; delay <= 999; delay++) {
                    PassLink x = new PassLink();
                    x.setOrbit(200, 36, 0);
                    x.addStation(0, 0, end, 0, 1, 0);
                    x.addStation(180, 0, 1, 0, 1, 0);
                    x.setGroundDelay(delay);
                    x.advance(1001);
                    Check.is("with the other", x.presentStation(), 1);
                    Check.is("from " + end + " by " + delay, x.reportState(0), 1000 - end >= delay ? 2 : 0);
                }
            }
            // A ground delay of 0 is over at once, 1 is not.
            for (int delay = 0; delay <= 1; delay++) {
                PassLink x = Scenes.steady(0, 1, 1, 1, 1, 1);
                x.setGroundDelay(delay);
                x.advance(2);
                Check.is("a handover by " + delay, x.reportState(0), delay == 0 ? 2 : 0);
            }
        });
    }

    private static void acknowledging() {
        Edges.holds("All frames that were received according to the report are ACKNOWLEDGED.", () -> {
            // Frames that are given up and to send again are acknowledged, too.
            PassLink x = Scenes.steady(0, 1, 2, 50, 1, 1);
            x.setGroundDelay(999);
            x.setPatience(1);
            x.addRecord(2, 0);
            x.advance(50);
            x.addRecord(1, 9);
            x.advance(1);
            Check.is("given up, to send again", x.frames(0, 0), 3);
            x.advance(50);
            Check.is("acknowledged by the late report", x.frames(0, 2), 3);
            Check.is("not sent again", x.sentIn(0, 0) + x.sentIn(0, 1), 0);
            Check.is("released", x.releasedAt(0), 100);
        });
        Edges.holds("All frames that were lost, are UNDER WAY, and were sent in this contact last, are TO SEND again.",
                () -> {
                    // Frame 0 is lost in contact 0, is given up and sent again in contact 1; contact 0's report leaves it.
                    PassLink x = Scenes.steady(0, 1, 2, 50, 1, 1);
                    x.setGroundDelay(999);
                    x.setPatience(1);
                    x.addRecord(2, 0);
                    x.setLoss(0, 1);
                    x.setSeed(Draws.before(0));
                    x.advance(1);
                    Check.is("both are lost", x.contactFrames(0, 0, true), 0);
                    x.advance(50);
                    Check.is("frame 0 goes again", x.sentIn(0, 0), 1);
                    x.setPatience(9999);
                    x.addRecord(2, 9);
                    x.advance(50);
                    Check.is("the report of contact 0", x.reportState(0), 2);
                    Check.is("frame 0 is still under way", x.frames(0, 1), 1);
                    Check.is("frame 1 is to send", x.frames(0, 0), 2);
                });
        Edges.holds("are TO SEND again", () -> {
            PassLink x = Scenes.steady(0, 1, 2);
            x.addRecord(2, 0);
            x.setLoss(0, 1);
            x.setSeed(Draws.before(0));
            x.advance(1);
            x.addRecord(2, 9);
            x.advance(99);
            Check.is("ahead of the report", x.frames(0, 1), 3);
            x.advance(1);
            Check.is("behind it", x.frames(0, 0), 3);
        });
    }

    private static void givingUp() {
        Edges.limits("each kept contact that has ended at least the patience (1 to 9999 minutes, 1000 at first) ago, and"
                + " whose report the satellite has not got, is given up", Edges.ARGUMENT, 1, 9999, PassLink::setPatience,
                Scenes.EMPTY);
        Edges.holds("1000 at first", () -> {
            Check.is("told", new PassLink().setPatience(1), 1000);
            // 998 minutes are less; from 999 on every report is there.
            PassLink x = new PassLink();
            x.setOrbit(200, 36, 0);
            x.addStation(0, 0, 2, 0, 1, 0);
            x.addStation(180, 0, 1, 0, 1, 0);
            x.setGroundDelay(999);
            x.advance(1001);
            Check.is("with the other", x.presentStation(), 1);
            Check.is("not given up", x.reportState(0), 0);
        });
        Edges.holds("at least the patience", () -> {
            // Contact 0 ends at 1, or at 2, and the other station is seen at 1000.
            for (int end = 1; end <= 2; end++) {
                for (int patience = 997; patience <= 999; patience++) {
                    PassLink x = new PassLink();
                    x.setOrbit(200, 36, 0);
                    x.addStation(0, 0, end + 1, 0, 1, 0);
                    x.addStation(180, 0, 1, 0, 1, 0);
                    x.setGroundDelay(999);
                    x.setPatience(patience);
                    x.advance(1001);
                    Check.is("from " + (end + 1) + " by " + patience, x.reportState(0), 999 - end >= patience ? 1 : 0);
                }
            }
            // The least patience: a contact that ended a minute ago, and one that ended right now.
            PassLink x = Scenes.steady(0, 1, 1, 2, 1, 1, 3, 1, 1);
            x.setGroundDelay(999);
            x.setPatience(1);
            x.advance(3);
            Check.is("a minute ago", x.reportState(0), 1);
            x.advance(1);
            Check.is("right now", x.reportState(1), 0);
        });
        Edges.holds("After all reports", () -> {
            // The report and the patience are due together: it is got, and not given up.
            PassLink x = Scenes.steady(0, 1, 1, 50, 1, 1);
            x.setGroundDelay(49);
            x.setPatience(49);
            x.addRecord(1, 0);
            x.advance(51);
            Check.is("got", x.reportState(0), 2);
            Check.is("none is given up", x.figure(7), 0);
            Check.is("nothing is sent again", x.figure(0), 1);
        });
        Edges.holds("is given up: those of its frames that are UNDER WAY and were sent in it last are TO SEND again.", () -> {
            PassLink x = Scenes.steady(0, 1, 3, 50, 1, 1, 55, 1, 1);
            x.setGroundDelay(999);
            x.setPatience(49);
            x.addRecord(3, 0);
            x.advance(51);
            Check.is("to send again", x.frames(0, 0), 6);
            Check.is("the first is sent again", x.frames(0, 1), 1);
            Check.is("given up", x.figure(7), 1);
            x.advance(5);
            // At 55 contact 0 is given up already: frame 0, sent last in contact 1, stays under way.
            Check.is("once", x.figure(7), 1);
            Check.is("under way", x.frames(0, 1), 3);
            Check.is("to send", x.frames(0, 0), 4);
        });
        Edges.holds("(Its report may still arrive later.)", () -> {
            PassLink x = Scenes.steady(0, 1, 1, 50, 1, 1);
            x.setGroundDelay(999);
            x.setPatience(49);
            x.addRecord(1, 0);
            x.advance(51);
            Check.is("given up", x.reportState(0), 1);
            x.advance(50);
            Check.is("arrived", x.reportState(0), 2);
            Check.is("acknowledged", x.frames(0, 2), 1);
            Check.is("a report", x.figure(6), 1);
            Check.is("given up, and the second contact too", x.figure(7), 2);
        });
    }

    private static void sending() {
        Edges.holds("If there is a present contact, as many frames as the rate of its station are sent, one after the"
                + " other: each is the lowest frame TO SEND of the next record (at the time t); it is UNDER WAY then.", () -> {
            for (int rate = 1; rate <= 20; rate++) {
                PassLink x = Scenes.steady(1, 2, rate);
                x.addRecord(3, 1);
                x.addRecord(24, 0);
                x.addRecord(24, 0);
                x.advance(1);
                Check.is("no contact", x.figure(0), 0);
                x.advance(1);
                Check.is("the rate", x.figure(0), rate);
                Check.is("first record", x.frames(0, 1), (1 << Math.min(3, rate)) - 1);
                Check.is("then another", x.frames(1, 1), (1 << Math.max(0, rate - 3)) - 1);
                x.advance(1);
                Check.is("twice the rate", x.figure(0), 2 * rate);
            }
        });
        Edges.holds("of the next record (at the time t)", () -> {
            // The records are fresh up to the minutes 30 and 31.
            PassLink y = Scenes.steady(29, 5, 1);
            y.advance(1);
            y.setFresh(29, 5);
            y.addRecord(24, 0);
            y.advance(1);
            y.addRecord(24, 0);
            y.advance(28);
            Check.is("minute 29: both are fresh", y.frames(0, 1), 1);
            y.advance(1);
            Check.is("minute 30: the first is still fresh", y.frames(0, 1), 3);
            y.advance(1);
            Check.is("minute 31: it is not", y.frames(0, 1), 3);
            Check.is("minute 31: the second is", y.frames(1, 1), 1);
            y.advance(1);
            Check.is("minute 32: none is", y.frames(0, 1), 7);
        });
        Edges.holds("For each frame a random number of 100 is drawn; if it is less than the loss of the station, the frame"
                + " is lost, otherwise it is received.", () -> {
            for (int draw : new int[] {0, 1, 49, 50, 98, 99}) {
                int seed = Draws.seedFor(draw);
                for (int loss : new int[] {0, 1, 49, 50, 51, 98, 99}) {
                    Check.is("drawn " + draw + " by " + loss, Draws.lost(seed, loss), draw < loss ? 1 : 0);
                }
            }
        });
        Edges.holds("For each frame a random number of 100 is drawn", () -> {
            // Three frames by a loss of 0 use up three numbers.
            PassLink x = Scenes.steady(0, 2, 3);
            x.addRecord(6, 0);
            x.advance(1);
            x.setLoss(0, 50);
            x.advance(1);
            long state = Draws.next(Draws.next(Draws.next(1)));
            int due = 7;
            for (int frame = 3; frame < 6; frame++) {
                state = Draws.next(state);
                due |= Draws.drawn(state) < 50 ? 0 : 1 << frame;
            }
            Check.is("received", x.frames(0, 3), due);
        });
        Edges.holds("If there is no frame TO SEND, nothing is sent.", () -> {
            PassLink x = Scenes.steady(0, 30, 20);
            x.advance(1);
            Check.is("no records", x.figure(0), 0);
            x.addRecord(24, 0);
            x.advance(1);
            Check.is("20", x.figure(0), 20);
            x.advance(1);
            Check.is("4 more", x.figure(0), 24);
            x.advance(10);
            Check.is("no more", x.figure(0), 24);
            Check.is("still in contact", x.stationFigure(0, 1), 13);
            // And no number is drawn: the next record begins with the 25th.
            x.setLoss(0, 50);
            x.addRecord(10, 0);
            x.advance(1);
            long state = 1;
            for (int n = 0; n < 24; n++) {
                state = Draws.next(state);
            }
            Check.is("the draws go on", Integer.toBinaryString(x.frames(1, 3)), Draws.due(state, 10));
        });
    }

    private static void theEndOfTime() {
        Edges.holds("After that, the present time is t + 1.", () -> {
            PassLink x = new PassLink();
            for (int t = 0; t < 50; t++) {
                Check.is("advance", x.advance(1), t + 1);
                Check.is("time", x.time(), t + 1);
            }
        });
        Edges.holds("The present time is at most 20000.", () -> {
            PassLink x = Scenes.steady(99 - 40, 1, 1);
            while (x.time() < 19000) {
                x.advance(1000);
            }
            Check.is("a minute too many", Check.thrownBy(x, l -> l.advance(1001)), "IllegalStateException");
            Check.is("just 20000", x.advance(1000), 20000);
            for (int minutes : new int[] {1, 2, 1440}) {
                Check.is("no more", Check.thrownBy(x, l -> l.advance(minutes)), "IllegalStateException");
            }
            Check.is("200 contacts", x.contactCount(), 200);
            Check.is("the last one", x.contactBegin(199), 19959);
            x.save(0);
            x.restore(0);
            Check.is("restored", x.time(), 20000);
            Check.is("no more", Check.thrownBy(x, l -> l.advance(1)), "IllegalStateException");
            x.load();
            Check.is("a new simulator", x.advance(1), 1);
        });
    }

    private static void archive() {
        Edges.holds("A frame that is received comes to the archive in the same minute.", () -> {
            PassLink x = Scenes.steady(0, 5, 1);
            x.addRecord(5, 0);
            for (int frames = 1; frames <= 5; frames++) {
                x.advance(1);
                Check.is("archived", x.frames(0, 3), (1 << frames) - 1);
                Check.is("figure", x.figure(3), frames);
            }
        });
        Edges.holds("If the archive has it already, it is a duplicate and is thrown away.", () -> {
            PassLink x = Scenes.steady(0, 1, 1, 50, 1, 1);
            x.setGroundDelay(999);
            x.setPatience(1);
            x.addRecord(1, 0);
            x.advance(51);
            Check.is("a duplicate", x.figure(2), 1);
            Check.is("archived once", x.figure(3), 1);
            Check.is("received", x.stationFigure(1, 3), 1);
            Check.is("delivered at the first time", x.deliveredAt(0), 0);
            Check.is("noted as received", x.contactFrames(1, 0, true), 1);
        });
        Edges.holds("When the archive has all frames of a record, the record is delivered, at the time of this minute.",
                () -> {
                    PassLink x = Scenes.steady(7, 30, 1);
                    x.addRecord(24, 0);
                    x.advance(30);
                    Check.is("23 frames", x.deliveredAt(0), -1);
                    Check.is("none", x.figure(4), 0);
                    x.advance(1);
                    Check.is("24 frames", x.deliveredAt(0), 30);
                    Check.is("one", x.figure(4), 1);
                });
    }

    private static void randomNumbers() {
        Edges.holds("The random generator has a state, which is 1 at first.", () -> {
            PassLink x = Draws.ready();
            x.advance(2);
            Check.is("the first draws", Integer.toBinaryString(x.frames(0, 3)), Draws.due(1, 24));
            Check.is("drawn first", Draws.drawn(Draws.next(1)), 38);
            PassLink y = Check.loaded("station 0 0 1 0 1 39;record 1 0;");
            y.advance(1);
            Check.is("of a setup", y.figure(1), 1);
        });
        Edges.holds("A draw of m replaces the state s by (s * 1103515245 + 12345) modulo 2147483648", () -> {
            // The new states at both ends of the circle, and around its middle and its quarters.
            for (long state : new long[] {0, 1, 65535, 65536, 536870911, 536870912, 1073741823, 1073741824, 2147418111,
                2147418112, 2147483646, 2147483647}) {
                int seed = Draws.before(state);
                Check.is("worked out backwards", Draws.next(seed), state);
                int draw = Draws.drawn(state);
                Check.is("loss " + draw + " to " + state, Draws.lost(seed, draw), 0);
                if (draw < 99) {
                    Check.is("loss " + (draw + 1) + " to " + state, Draws.lost(seed, draw + 1), 1);
                }
                Check.is("and on from " + state, Draws.seen(seed, 24), Draws.due(seed, 24));
            }
        });
        Edges.holds("computed without overflow", () -> {
            for (int seed : new int[] {2147483647, 2147483646, 2000000000, 1946142, 1946143, 1073741824}) {
                Check.is("from " + seed, Draws.seen(seed, 24), Draws.due(seed, 24));
            }
        });
        Edges.holds("and yields (s / 65536) modulo m for the new s.", () -> {
            for (int draw = 0; draw < 100; draw++) {
                int seed = Draws.seedFor(draw);
                Check.is("not lost by " + draw, Draws.lost(seed, draw), 0);
                if (draw < 99) {
                    Check.is("lost by " + (draw + 1), Draws.lost(seed, draw + 1), 1);
                }
            }
        });
    }
}
