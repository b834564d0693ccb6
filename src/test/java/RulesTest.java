/** Promises 1 to 11: a new object, the orbit, the stations and the rules. */
public final class RulesTest {
    public static void main(String[] args) {
        newObject();
        firstSeedIsOne();
        setOrbit();
        addStation();
        setLoss();
        singleRules();
        setMemory();
        setSeed();
        Check.end();
    }

    private static void newObject() {
        PassLink x = new PassLink();
        Check.is("time", x.time(), 0);
        Check.is("stations", x.stationCount(), 0);
        Check.is("records", x.recordCount(), 0);
        Check.is("contacts", x.contactCount(), 0);
        Check.is("present", x.presentStation(), -1);
        Check.is("text is empty", Check.thrownBy(x, l -> l.truncateText(1)), "IllegalArgumentException");
        Check.is("error", x.errorCode(), 0);
        Check.is("error position", x.errorPosition(), -1);
        for (int slot = 0; slot < 2; slot++) {
            int s = slot;
            Check.is("no saved state", Check.thrownBy(x, l -> l.restore(s)), "IllegalStateException");
        }
        for (int what = 0; what < 8; what++) {
            Check.is("figure " + what, x.figure(what), 0);
        }
        Check.is("handovers", x.handovers(), 0);
        x.addStation(0, 0, 10, 7, 1, 0);
        x.addStation(24, 0, 10, 7, 1, 0);
        Check.is("node 0", x.passBegin(0, 0), 7);
        Check.is("shift 24", x.passBegin(1, 1), 97);
        Check.is("period", x.setOrbit(60, 0, 0), 90);
        Check.is("ground delay", x.setGroundDelay(0), 60);
        Check.is("patience", x.setPatience(1), 1000);
        Check.is("fresh", x.setFresh(0, 0), 305);
        Check.is("memory", x.setMemory(24), 300);
        Check.is("policy", x.setPolicy(1), 0);
    }

    /** The first draw from the state 1 is 38, so a loss of 38 spares the frame and 39 does not. */
    private static void firstSeedIsOne() {
        for (int loss = 38; loss <= 39; loss++) {
            PassLink x = Scenes.steady(0, 5, 1);
            x.setLoss(0, loss);
            x.addRecord(1, 0);
            x.advance(1);
            Check.is("lost at " + loss, x.figure(1), loss - 38);
        }
    }

    private static void setOrbit() {
        PassLink x = new PassLink();
        x.addStation(10, 0, 6, 2, 3, 0);
        Check.is("first period", x.setOrbit(60, 359, 11), 90);
        Check.is("orbit 0 is past it", x.passBegin(0, 0), -1);
        Check.is("orbit 1 is over it", x.passBegin(0, 1), 62);
        Check.is("round the circle", x.passBegin(0, 361), 361 * 60 + 2);
        Check.is("second period", x.setOrbit(200, 0, 10), 60);
        Check.is("long period", x.passBegin(0, 999), 999 * 200 + 2);
        Check.is("third period", x.setOrbit(61, 359, 359), 200);
        Check.is("node 359", x.passBegin(0, 349), 61 * 349 + 2);
        int[][] wrong = {{59, 0, 0}, {201, 0, 0}, {90, -1, 0}, {90, 360, 0}, {90, 0, -1}, {90, 0, 360},
            {Integer.MIN_VALUE, 0, 0}, {Integer.MAX_VALUE, 0, 0}};
        for (int[] w : wrong) {
            Check.refuses("setOrbit " + w[0] + " " + w[1] + " " + w[2], IllegalArgumentException.class, Scenes.BUSY,
                    l -> l.setOrbit(w[0], w[1], w[2]));
        }
    }

    private static void addStation() {
        PassLink x = new PassLink();
        Check.is("least of all", x.addStation(0, 0, 1, 0, 1, 0), 0);
        Check.is("most of all", x.addStation(359, 90, 30, 59, 20, 99), 1);
        Check.is("most: pass", x.passEnd(1, 0), 59 + 30 - 30 / 91);
        Check.is("most: frames", x.passFrames(1, 0), 20 * 30);
        Check.is("count", x.stationCount(), 2);
        x.addStation(5, 5, 5, 5, 5, 5);
        Check.is("fourth", x.addStation(5, 5, 5, 5, 5, 5), 3);
        Check.is("count", x.stationCount(), 4);
        int[][] wrong = {{-1, 0, 1, 0, 1, 0}, {360, 0, 1, 0, 1, 0}, {0, -1, 1, 0, 1, 0}, {0, 91, 1, 0, 1, 0},
            {0, 0, 0, 0, 1, 0}, {0, 0, 31, 0, 1, 0}, {0, 0, 1, -1, 1, 0}, {0, 0, 1, 60, 1, 0},
            {0, 0, 1, 0, 0, 0}, {0, 0, 1, 0, 21, 0}, {0, 0, 1, 0, 1, -1}, {0, 0, 1, 0, 1, 100}};
        for (int[] w : wrong) {
            Check.refuses("addStation", IllegalArgumentException.class, Scenes.BUSY,
                    l -> l.addStation(w[0], w[1], w[2], w[3], w[4], w[5]));
            Check.refuses("addStation to four", IllegalArgumentException.class, Scenes.FULL,
                    l -> l.addStation(w[0], w[1], w[2], w[3], w[4], w[5]));
        }
        Check.refuses("a fifth", IllegalStateException.class, Scenes.FULL, l -> l.addStation(0, 0, 1, 0, 1, 0));
    }

    private static void setLoss() {
        PassLink x = Scenes.steady(0, 5, 1, 10, 5, 1);
        Check.is("loss", x.setLoss(1, 99), 0);
        Check.is("loss again", x.setLoss(1, 39), 99);
        Check.is("the other's", x.setLoss(0, 1), 0);
        x.addRecord(1, 0);
        x.setLoss(0, 39);
        x.advance(1);
        Check.is("it loses", x.figure(1), 1);
        for (int station : new int[] {-1, 2, Integer.MAX_VALUE, Integer.MIN_VALUE}) {
            Check.refuses("setLoss at " + station, IndexOutOfBoundsException.class, Scenes.BUSY,
                    l -> l.setLoss(station, 5));
            Check.refuses("the station first", IndexOutOfBoundsException.class, Scenes.BUSY,
                    l -> l.setLoss(station, 100));
        }
        for (int loss : new int[] {-1, 100}) {
            Check.refuses("setLoss " + loss, IllegalArgumentException.class, Scenes.BUSY, l -> l.setLoss(0, loss));
        }
    }

    private static void singleRules() {
        PassLink x = new PassLink();
        x.setGroundDelay(999);
        Check.is("ground delay", x.setGroundDelay(0), 999);
        Check.is("ground delay 0", x.setGroundDelay(5), 0);
        x.setPatience(9999);
        Check.is("patience", x.setPatience(1), 9999);
        Check.is("patience 1", x.setPatience(5), 1);
        x.setFresh(999, 9);
        Check.is("fresh", x.setFresh(0, 0), 9999);
        Check.is("fresh 0", x.setFresh(12, 3), 0);
        Check.is("fresh 12 3", x.setFresh(12, 3), 123);
        x.setPolicy(1);
        Check.is("policy 1", x.setPolicy(0), 1);
        Check.is("policy 0", x.setPolicy(0), 0);
        for (int w : new int[] {-1, 1000, 10000}) {
            Check.refuses("setGroundDelay", IllegalArgumentException.class, Scenes.BUSY, l -> l.setGroundDelay(w));
            Check.refuses("setFresh limit", IllegalArgumentException.class, Scenes.BUSY, l -> l.setFresh(w, 1));
            Check.refuses("setFresh bonus", IllegalArgumentException.class, Scenes.BUSY, l -> l.setFresh(1, w));
        }
        Check.refuses("setFresh bonus", IllegalArgumentException.class, Scenes.BUSY, l -> l.setFresh(1, 10));
        for (int w : new int[] {-1, 0, 10000}) {
            Check.refuses("setPatience", IllegalArgumentException.class, Scenes.BUSY, l -> l.setPatience(w));
        }
        for (int w : new int[] {-1, 2}) {
            Check.refuses("setPolicy", IllegalArgumentException.class, Scenes.BUSY, l -> l.setPolicy(w));
        }
    }

    private static void setMemory() {
        PassLink x = new PassLink();
        Check.is("memory", x.setMemory(960), 300);
        for (int n = 0; n < 40; n++) {
            x.addRecord(24, 0);
        }
        Check.is("all in use", x.memoryInUse(), 960);
        Check.is("as it was", x.setMemory(960), 960);
        Check.is("less", Check.thrownBy(x, l -> l.setMemory(959)), "IllegalStateException");
        Check.is("far less", Check.thrownBy(x, l -> l.setMemory(23)), "IllegalArgumentException");
        for (int w : new int[] {-1, 0, 23, 961}) {
            Check.refuses("setMemory " + w, IllegalArgumentException.class, Scenes.BUSY, l -> l.setMemory(w));
        }
        Check.refuses("less than in use", IllegalStateException.class, Scenes.BUSY, l -> l.setMemory(24));
        PassLink y = new PassLink();
        y.addRecord(20, 0);
        y.addRecord(5, 0);
        Check.is("just in use", y.setMemory(25), 300);
        Check.is("no room", Check.thrownBy(y, l -> l.addRecord(1, 0)), "IllegalStateException");
        Check.is("24 is less", Check.thrownBy(y, l -> l.setMemory(24)), "IllegalStateException");
        Check.is("room again", y.setMemory(26), 25);
        Check.is("and it fits", y.addRecord(1, 0), 2);
    }

    /** From 2147483647 the first draw: (2147483647 * 1103515245 + 12345) mod 2^31 = 1043980748, / 65536 = 15929. */
    private static void setSeed() {
        int[][] seedAndDraw = {{2147483647, 29}, {0, 0}, {1, 38}};
        for (int[] pair : seedAndDraw) {
            for (int loss = pair[1]; loss <= pair[1] + 1; loss++) {
                PassLink x = Scenes.steady(0, 5, 1);
                x.setLoss(0, loss);
                x.addRecord(1, 0);
                x.setSeed(pair[0]);
                x.advance(1);
                Check.is("seed " + pair[0] + " loss " + loss, x.figure(1), loss - pair[1]);
            }
        }
        Check.refuses("setSeed -1", IllegalArgumentException.class, Scenes.BUSY, l -> l.setSeed(-1));
        Check.refuses("least seed", IllegalArgumentException.class, Scenes.BUSY, l -> l.setSeed(Integer.MIN_VALUE));
    }
}
