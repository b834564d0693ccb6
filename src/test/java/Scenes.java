/** Objects in the middle of their work, for the tests. */
final class Scenes {
    static final Check.Scene EMPTY = PassLink::new;
    static final Check.Scene BUSY = Scenes::busy;
    static final Check.Scene FULL = Scenes::full;
    static final Check.Scene AT_THE_END = Scenes::atTheEnd;

    /** A setup of eleven bytes. */
    static final String TEXT = "patience 5;";

    private Scenes() {
    }

    /** A saved state, a contact with losses, records of all kinds, an error and a text. */
    static PassLink busy() {
        PassLink link = Check.loaded("orbit 60 5 0; station 0 10 11 5 4 30; station 20 15 8 10 2 0;"
                + "record 6 2; record 3 9;");
        link.advance(20);
        link.save(1);
        Check.load(link, "orbit 1");
        link.addRecord(24, 1);
        link.setFresh(100, 3);
        link.setGroundDelay(40);
        link.setPatience(77);
        link.setPolicy(1);
        link.setSeed(4711);
        link.advance(48);
        Check.append(link, TEXT, 0);
        return link;
    }

    /** Every orbit the same: passes of 100 minutes each, a station seen in each of them. */
    static PassLink steady(int... phaseLengthRate) {
        PassLink link = new PassLink();
        link.setOrbit(100, 0, 0);
        for (int k = 0; k + 2 < phaseLengthRate.length; k += 3) {
            link.addStation(0, 0, phaseLengthRate[k + 1], phaseLengthRate[k], phaseLengthRate[k + 2], 0);
        }
        return link;
    }

    /** 4 stations, 40 records, no free memory, 60 kept contacts and more, 400 bytes, 2 saved states. */
    static PassLink full() {
        PassLink link = steady(0, 5, 1, 10, 5, 1, 20, 5, 1, 30, 5, 1);
        for (int station = 0; station < 4; station++) {
            link.setLoss(station, 80);
        }
        for (int n = 0; n < 40; n++) {
            link.addRecord(1 + n % 9, n % 10);
        }
        link.advance(12);
        link.save(0);
        link.advance(1440);
        link.advance(170);
        link.save(1);
        link.setMemory(link.memoryInUse());
        Check.load(link, "memory;");
        Check.append(link, TEXT + " ".repeat(400 - TEXT.length()), 0);
        return link;
    }

    static PassLink atTheEnd() {
        PassLink link = full();
        while (link.time() < 20000) {
            link.advance(Math.min(1440, 20000 - link.time()));
        }
        return link;
    }
}
