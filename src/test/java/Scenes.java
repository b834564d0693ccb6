/** Objects in the middle of their work, for the tests. */
final class Scenes {
    private Scenes() {
    }

    /** A saved state, a contact with losses, records of all kinds, an error and a text. */
    static PassLink busy() {
        PassLink link = Check.loaded("orbit 60 5 0; station 0 10 11 5 4 30; station 20 15 8 10 2 0;"
                + "record 6 2; record 3 9;");
        link.advance(20);
        link.save(1);
        Check.load(link, "orbit 1");
        link.addRecord(24, 1);
        link.setFresh(100, 3);
        link.setGroundDelay(40);
        link.setPatience(77);
        link.setPolicy(1);
        link.setSeed(4711);
        link.advance(48);
        Check.append(link, "policy", 0);
        return link;
    }

    /** Every orbit the same: passes of 100 minutes each, a station seen in each of them. */
    static PassLink steady(int... phaseLengthRate) {
        PassLink link = new PassLink();
        link.setOrbit(100, 0, 0);
        for (int k = 0; k + 2 < phaseLengthRate.length; k += 3) {
            link.addStation(0, 0, phaseLengthRate[k + 1], phaseLengthRate[k], phaseLengthRate[k + 2], 0);
        }
        return link;
    }

    /** All four stations and 40 records. */
    static PassLink full() {
        PassLink link = steady(0, 5, 1, 10, 5, 1, 20, 5, 1, 30, 5, 1);
        for (int n = 0; n < 40; n++) {
            link.addRecord(1 + n % 3, n % 10);
        }
        link.advance(12);
        return link;
    }
}
