import java.util.EnumMap;
import java.util.IdentityHashMap;
import java.util.Map;

/**
 * A look at a part of an object's state, as one text. Each look has an object of its own, so
 * that the call limit of 512 is kept and a look may change what it looks at: what is hidden
 * (loss, generator, text, slots) is told only by using it.
 */
enum Look {
    RULES {
        @Override
        void write(PassLink link, Notes notes) {
            if (link.stationCount() < 4) {
                notes.add(link.addStation(7, 30, 5, 3, 1, 0));
            }
            for (int line = 0; line < 20; line++) {
                notes.add(link.passTable(0, line, 1));
            }
            rules(link, notes);
        }
    },
    STATIONS {
        @Override
        void write(PassLink link, Notes notes) {
            notes.add(link.stationCount());
            for (int station = 0; station < link.stationCount(); station++) {
                for (int orbit = 0; orbit < 12; orbit++) {
                    notes.add(link.passBegin(station, orbit), link.passFrames(station, orbit));
                }
                for (int what = 0; what < 5; what++) {
                    notes.add(link.stationFigure(station, what));
                }
                notes.add(link.lastContact(station), link.passEnd(station, 0), link.setLoss(station, 0));
            }
        }
    },
    EARLY_RECORDS {
        @Override
        void write(PassLink link, Notes notes) {
            records(link, notes, 0, 20);
        }
    },
    LATE_RECORDS {
        @Override
        void write(PassLink link, Notes notes) {
            records(link, notes, 20, 40);
        }
    },
    EARLY_CONTACTS {
        @Override
        void write(PassLink link, Notes notes) {
            contacts(link, notes, link.contactCount() - 60, link.contactCount() - 40);
        }
    },
    MIDDLE_CONTACTS {
        @Override
        void write(PassLink link, Notes notes) {
            contacts(link, notes, link.contactCount() - 40, link.contactCount() - 20);
        }
    },
    LATE_CONTACTS {
        @Override
        void write(PassLink link, Notes notes) {
            contacts(link, notes, link.contactCount() - 20, link.contactCount());
        }
    },
    FIGURES {
        @Override
        void write(PassLink link, Notes notes) {
            figures(link, notes);
            notes.add(link.time(), link.handovers(), link.medianDelay(), link.slowestRecord());
            notes.add(link.meanDelayNumerator(), link.meanDelayDenominator());
            notes.add(link.efficiencyNumerator(), link.efficiencyDenominator());
            notes.add(link.oldestRecord(), link.nextRecord(), link.memoryInUse());
            for (int priority = 0; priority < 10; priority++) {
                notes.add(link.backlog(priority));
            }
            notes.add(link.errorCode(), link.errorPosition());
        }
    },
    FUTURE {
        @Override
        void write(PassLink link, Notes notes) {
            notes.add(link.nextContact(0), link.nextContact(1), link.nextContact(2));
            notes.add(link.coverage(-1, 0, 1440), link.longestGap(0, 1440), link.bestStation(0, 1440));
            draws(link, notes);
        }
    },
    SLOTS {
        @Override
        void write(PassLink link, Notes notes) {
            for (int slot = 0; slot < 2; slot++) {
                try {
                    link.restore(slot);
                } catch (IllegalStateException e) {
                    notes.add(-7);
                    continue;
                }
                notes.add(link.time(), link.recordCount(), link.contactCount(), link.presentStation());
                figures(link, notes);
                draws(link, notes);
                rules(link, notes);
            }
        }
    },
    TEXT {
        @Override
        void write(PassLink link, Notes notes) {
            notes.add(lengthOf(link));
            notes.add(link.load(), link.errorCode(), link.errorPosition());
            notes.add(link.stationCount(), link.recordCount());
            rules(link, notes);
        }
    };

    /** The answers of a look. */
    static final class Notes {
        private final StringBuilder text = new StringBuilder();

        void add(int... answers) {
            for (int answer : answers) {
                text.append(answer).append(' ');
            }
        }
    }

    private static final Map<Check.Scene, Map<Look, String>> SEEN = new IdentityHashMap<>();

    abstract void write(PassLink link, Notes notes);

    String at(Check.Scene scene) {
        Notes notes = new Notes();
        write(scene.make(), notes);
        return notes.text.toString();
    }

    /** Scenes always make the same object, so that one look at each of them is enough. */
    String atKnown(Check.Scene scene) {
        return SEEN.computeIfAbsent(scene, s -> new EnumMap<>(Look.class)).computeIfAbsent(this, look -> look.at(scene));
    }

    private static void rules(PassLink link, Notes notes) {
        notes.add(link.setGroundDelay(60), link.setPatience(1000), link.setFresh(30, 5), link.setPolicy(0));
        notes.add(link.memoryInUse(), link.setMemory(960), link.setOrbit(90, 24, 0));
    }

    private static void figures(PassLink link, Notes notes) {
        for (int what = 0; what < 8; what++) {
            notes.add(link.figure(what));
        }
    }

    private static void records(PassLink link, Notes notes, int from, int to) {
        notes.add(link.recordCount());
        for (int record = from; record < to && record < link.recordCount(); record++) {
            for (int state = 0; state < 4; state++) {
                notes.add(link.frames(record, state));
            }
            notes.add(link.urgency(record), link.sentIn(record, 0), link.resumePoint(record));
            notes.add(link.deliveredAt(record), link.releasedAt(record), link.setPriority(record, 0));
        }
    }

    private static void contacts(PassLink link, Notes notes, int from, int to) {
        notes.add(link.contactCount(), link.presentStation());
        int records = link.recordCount();
        for (int contact = Math.max(0, from); contact < to; contact++) {
            notes.add(link.contactStation(contact), link.contactBegin(contact), link.contactEnd(contact));
            notes.add(link.reportState(contact), link.contactTotal(contact, false), link.contactTotal(contact, true));
            if (records > 0) {
                notes.add(link.contactFrames(contact, records - 1, false), link.contactFrames(contact, 0, true));
            }
        }
    }

    /** Half of what is sent is lost from now on: the generator tells which frames. */
    private static void draws(PassLink link, Notes notes) {
        for (int station = 0; station < link.stationCount(); station++) {
            link.setLoss(station, 50);
        }
        if (link.stationCount() < 4) {
            link.addStation(0, 90, 30, 0, 20, 50);
        }
        link.setMemory(960);
        if (link.recordCount() < 40) {
            link.addRecord(24, 9);
        }
        link.setOrbit(60, 0, 0);
        notes.add(link.bestPolicy(30), link.bestPolicy(300));
        if (link.time() <= 20000 - 300) {
            notes.add(link.advance(300), link.figure(0), link.figure(1), link.figure(3));
            notes.add(link.frames(link.recordCount() - 1, 3), link.handovers());
        }
    }

    private static int lengthOf(PassLink link) {
        try {
            return link.truncateText(link.appendText(0x20202020) - 4);
        } catch (IllegalStateException e) {
            return lengthOfFull(link);
        }
    }

    private static int lengthOfFull(PassLink link) {
        for (int length = 400; length > 396; length--) {
            try {
                return link.truncateText(length);
            } catch (IllegalArgumentException e) {
                // The text is shorter.
            }
        }
        return -7;
    }
}
