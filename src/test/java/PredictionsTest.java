/** Promises 12 to 21: what is predicted from the orbit and the stations. */
public final class PredictionsTest {
    private static final int[] NO_STATION = {-1, 2, Integer.MIN_VALUE, Integer.MAX_VALUE};

    public static void main(String[] args) {
        passes();
        passesIntoTheNextOrbit();
        wrongPasses();
        visibility();
        table();
        wrongTable();
        nextContact();
        contactsAtTheEdge();
        spans();
        wrongSpans();
        bestStation();
        nextPass();
        Check.end();
    }

    /** Two stations, as busy() has them, and nothing else. */
    private static PassLink two() {
        PassLink x = new PassLink();
        x.setOrbit(60, 5, 0);
        x.addStation(0, 10, 11, 5, 4, 0);
        x.addStation(20, 15, 8, 10, 2, 0);
        return x;
    }

    private static void passes() {
        PassLink x = two();
        int[] begins = {5, 65, 125, -1};
        int[] ends = {16, 71, 126, -1};
        int[] frames = {44, 24, 4, 0};
        for (int orbit = 0; orbit < 4; orbit++) {
            Check.is("begin in " + orbit, x.passBegin(0, orbit), begins[orbit]);
            Check.is("end in " + orbit, x.passEnd(0, orbit), ends[orbit]);
            Check.is("frames in " + orbit, x.passFrames(0, orbit), frames[orbit]);
        }
        Check.is("d 20 of reach 15", x.passBegin(1, 0), -1);
        Check.is("d 15 of reach 15", x.passEnd(1, 1), 71);
        Check.is("8 * 6 / 16 is 3", x.passEnd(1, 2), 133);
        Check.is("8 * 11 / 16 is rounded up", x.passEnd(1, 3), 196);
        Check.is("the other way round the circle", x.passBegin(0, 70), 4205);
        Check.is("and its end", x.passEnd(0, 70), 4206);
        Check.is("and behind it", x.passEnd(0, 71), 71 * 60 + 5 + 6);
        Check.is("the last orbit", x.passBegin(0, 999), -1);
        Check.is("its end", x.passEnd(0, 999), -1);
        Check.is("its frames", x.passFrames(0, 999), 0);
        Check.is("13 times round", x.passBegin(1, 937), 937 * 60 + 10);
    }

    private static void passesIntoTheNextOrbit() {
        PassLink x = new PassLink();
        x.setOrbit(60, 0, 0);
        x.addStation(0, 0, 30, 59, 1, 0);
        Check.is("it begins", x.passBegin(0, 0), 59);
        Check.is("it ends in orbit 1", x.passEnd(0, 0), 89);
        Check.is("not ahead", x.isVisible(0, 58), false);
        Check.is("nothing from an orbit before 0", x.isVisible(0, 0), false);
        Check.is("in orbit 0", x.isVisible(0, 59), true);
        Check.is("in orbit 1", x.isVisible(0, 60), true);
        Check.is("in its last minute", x.isVisible(0, 88), true);
        Check.is("behind", x.isVisible(0, 89), false);
        Check.is("coverage", x.coverage(0, 0, 180), 30 + 30 + 1);
    }

    private static void wrongPasses() {
        for (int station : NO_STATION) {
            Check.refuses("begin", IndexOutOfBoundsException.class, Scenes.BUSY, l -> l.passBegin(station, 0));
            Check.refuses("end", IndexOutOfBoundsException.class, Scenes.BUSY, l -> l.passEnd(station, 0));
            Check.refuses("frames", IndexOutOfBoundsException.class, Scenes.BUSY, l -> l.passFrames(station, 0));
            Check.refuses("station first", IndexOutOfBoundsException.class, Scenes.BUSY, l -> l.passBegin(station, -1));
            Check.refuses("station first", IndexOutOfBoundsException.class, Scenes.BUSY, l -> l.passEnd(station, -1));
            Check.refuses("station first", IndexOutOfBoundsException.class, Scenes.BUSY, l -> l.passFrames(station, -1));
        }
        for (int orbit : new int[] {-1, 1000, Integer.MIN_VALUE, Integer.MAX_VALUE}) {
            Check.refuses("begin", IllegalArgumentException.class, Scenes.BUSY, l -> l.passBegin(0, orbit));
            Check.refuses("end", IllegalArgumentException.class, Scenes.BUSY, l -> l.passEnd(0, orbit));
            Check.refuses("frames", IllegalArgumentException.class, Scenes.BUSY, l -> l.passFrames(0, orbit));
        }
    }

    private static void visibility() {
        PassLink x = two();
        Check.is("first", x.isVisible(0, 5), true);
        Check.is("before", x.isVisible(0, 4), false);
        Check.is("last", x.isVisible(0, 15), true);
        Check.is("behind", x.isVisible(0, 16), false);
        Check.is("both", x.isVisible(0, 70) && x.isVisible(1, 70), true);
        // The orbits of passes are counted to 999, but minutes are seen to 99999: orbit 1656 has the longitude 0.
        Check.is("far", x.isVisible(0, 1656 * 60 + 5), true);
        Check.is("far and over", x.isVisible(0, 1656 * 60 + 16), false);
        Check.is("the last minute", x.isVisible(0, 99999), false);
        for (int station : NO_STATION) {
            Check.refuses("visible", IndexOutOfBoundsException.class, Scenes.BUSY, l -> l.isVisible(station, 0));
            Check.refuses("station first", IndexOutOfBoundsException.class, Scenes.BUSY, l -> l.isVisible(station, -1));
        }
        for (int time : new int[] {-1, 100000, Integer.MAX_VALUE}) {
            Check.refuses("visible", IllegalArgumentException.class, Scenes.BUSY, l -> l.isVisible(0, time));
        }
    }

    private static void table() {
        PassLink x = two();
        int[][] lines = {{0, 5, 16, 0}, {0, 65, 71, 1}, {1, 70, 71, 1}, {0, 125, 126, 2}, {1, 130, 133, 2}};
        for (int line = 0; line < lines.length; line++) {
            for (int what = 0; what < 4; what++) {
                Check.is("table " + line + " " + what, x.passTable(0, line, what), lines[line][what]);
            }
        }
        Check.is("from its begin", x.passTable(65, 0, 1), 65);
        Check.is("from behind its begin", x.passTable(66, 0, 1), 70);
        Check.is("behind orbit 999", x.passTable(60000, 0, 0), -1);
        // By the phase, and at the same time by the number.
        PassLink y = new PassLink();
        y.setOrbit(60, 0, 0);
        int[] phases = {30, 7, 30, 0};
        for (int phase : phases) {
            y.addStation(0, 0, 1, phase, 1, 0);
        }
        int[] order = {3, 1, 0, 2};
        for (int line = 0; line < 20; line++) {
            Check.is("station of line " + line, y.passTable(0, line, 0), order[line % 4]);
            Check.is("orbit of line " + line, y.passTable(0, line, 3), line / 4);
        }
        Check.is("the last line of all", y.passTable(999 * 60, 3, 1), 999 * 60 + 30);
        Check.is("no line behind it", y.passTable(999 * 60, 4, 1), -1);
        Check.is("the last one alone", y.passTable(999 * 60 + 30, 1, 0), 2);
        Check.is("none", y.passTable(99999, 0, 0), -1);
        Check.is("no station", new PassLink().passTable(0, 19, 3), -1);
    }

    private static void wrongTable() {
        int[][] wrong = {{-1, 0, 0}, {100000, 0, 0}, {0, -1, 0}, {0, 20, 0}, {0, 0, -1}, {0, 0, 4}};
        for (int[] w : wrong) {
            Check.refuses("table", IllegalArgumentException.class, Scenes.BUSY, l -> l.passTable(w[0], w[1], w[2]));
        }
    }

    private static void nextContact() {
        PassLink x = two();
        contactIs(x, 0, 5, 16);
        x.advance(5);
        contactIs(x, 0, 5, 16);
        x.advance(1);
        contactIs(x, 0, 65, 71);
        x.advance(60);
        contactIs(x, 0, 125, 126);
        // STAY waits for station 0 to end, LONGEST hands over as soon as the other one is seen.
        PassLink y = Scenes.steady(0, 10, 1, 5, 15, 1);
        y.advance(1);
        contactIs(y, 1, 10, 20);
        y.setPolicy(1);
        contactIs(y, 1, 5, 20);
        Check.is("nothing happened", y.contactCount(), 1);
        y.setOrbit(100, 0, 180);
        contactIs(y, -1, -1, -1);
        for (int what : new int[] {-1, 3, Integer.MAX_VALUE}) {
            Check.refuses("nextContact", IllegalArgumentException.class, Scenes.BUSY, l -> l.nextContact(what));
        }
    }

    private static void contactIs(PassLink x, int station, int begin, int end) {
        Check.is("next station", x.nextContact(0), station);
        Check.is("next begin", x.nextContact(1), begin);
        Check.is("next end", x.nextContact(2), end);
    }

    /** Orbit 15 begins at 2970, and none before it passes the station. */
    static PassLink late(int phase, int length) {
        PassLink x = new PassLink();
        x.setOrbit(198, 1, 0);
        x.addStation(15, 0, length, phase, 1, 0);
        return x;
    }

    private static void contactsAtTheEdge() {
        contactIs(late(29, 1), 0, 2999, 3000);
        contactIs(late(29, 30), 0, 2999, 3000);
        contactIs(late(20, 10), 0, 2990, 3000);
        contactIs(late(20, 9), 0, 2990, 2999);
        contactIs(late(30, 1), -1, -1, -1);
        PassLink x = late(30, 30);
        x.advance(1);
        contactIs(x, 0, 3000, 3001);
    }

    private static void spans() {
        PassLink x = two();
        Check.is("one station", x.coverage(0, 0, 100), 17);
        Check.is("the other", x.coverage(1, 0, 200), 10);
        Check.is("any: minutes are counted once", x.coverage(-1, 0, 100), 17);
        Check.is("any", x.coverage(-1, 0, 135), 17 + 1 + 3);
        Check.is("one minute", x.coverage(0, 5, 1), 1);
        Check.is("the minute before", x.coverage(0, 4, 1), 0);
        Check.is("far", x.coverage(0, 99360, 1440), 11 + 6 + 1);
        Check.is("beyond the last time", Scenes.steady(0, 10, 1).coverage(0, 99999, 1440), 15 * 10);
        Check.is("no station at all", new PassLink().coverage(-1, 0, 10), 0);
        Check.is("gap between passes", x.longestGap(0, 100), 49);
        Check.is("gap at the beginning", x.longestGap(0, 12), 5);
        Check.is("gap at the end", x.longestGap(5, 20), 9);
        Check.is("no gap", x.longestGap(5, 11), 0);
        Check.is("all of it", new PassLink().longestGap(99999, 1440), 1440);
        Check.is("one minute", x.longestGap(4, 1), 1);
        // The other station fills the gap.
        PassLink y = Scenes.steady(0, 10, 1, 10, 10, 1);
        Check.is("gap behind both", y.longestGap(0, 200), 80);
    }

    private static void wrongSpans() {
        for (int station : new int[] {-2, 2, Integer.MIN_VALUE, Integer.MAX_VALUE}) {
            Check.refuses("coverage", IndexOutOfBoundsException.class, Scenes.BUSY, l -> l.coverage(station, 0, 10));
            Check.refuses("station first", IndexOutOfBoundsException.class, Scenes.BUSY,
                    l -> l.coverage(station, -1, 0));
        }
        int[][] wrong = {{-1, 10}, {100000, 10}, {0, 0}, {0, 1441}, {0, -1}};
        for (int[] w : wrong) {
            Check.refuses("coverage", IllegalArgumentException.class, Scenes.BUSY, l -> l.coverage(0, w[0], w[1]));
            Check.refuses("of any", IllegalArgumentException.class, Scenes.BUSY, l -> l.coverage(-1, w[0], w[1]));
            Check.refuses("longestGap", IllegalArgumentException.class, Scenes.BUSY, l -> l.longestGap(w[0], w[1]));
            Check.refuses("bestStation", IllegalArgumentException.class, Scenes.BUSY, l -> l.bestStation(w[0], w[1]));
        }
    }

    private static void bestStation() {
        PassLink x = Scenes.steady(0, 10, 2, 20, 5, 4, 40, 4, 6);
        Check.is("24 is the most", x.bestStation(0, 100), 2);
        Check.is("20 and 20: the lowest", x.bestStation(0, 40), 0);
        Check.is("a part", x.bestStation(5, 20), 1);
        Check.is("only the last", x.bestStation(43, 1), 2);
        Check.is("none", x.bestStation(44, 56), -1);
        Check.is("no station", new PassLink().bestStation(0, 1440), -1);
    }

    private static void nextPass() {
        PassLink x = two();
        Check.is("from 0", x.nextPass(0, 0), 5);
        Check.is("from its begin", x.nextPass(0, 5), 5);
        Check.is("from behind it", x.nextPass(0, 6), 65);
        Check.is("the next time round", x.nextPass(0, 127), 4205);
        Check.is("the other", x.nextPass(1, 0), 70);
        Check.is("the last one", x.nextPass(0, 938 * 60 + 5), 938 * 60 + 5);
        Check.is("behind the last one", x.nextPass(0, 938 * 60 + 6), -1);
        Check.is("none behind orbit 999", x.nextPass(0, 99999), -1);
        PassLink y = Scenes.steady(59, 1, 1);
        Check.is("into orbit 999", y.nextPass(0, 998 * 100 + 60), 999 * 100 + 59);
        Check.is("behind orbit 999", y.nextPass(0, 999 * 100 + 60), -1);
        for (int station : NO_STATION) {
            Check.refuses("nextPass", IndexOutOfBoundsException.class, Scenes.BUSY, l -> l.nextPass(station, 0));
            Check.refuses("station first", IndexOutOfBoundsException.class, Scenes.BUSY, l -> l.nextPass(station, -1));
        }
        for (int from : new int[] {-1, 100000}) {
            Check.refuses("nextPass", IllegalArgumentException.class, Scenes.BUSY, l -> l.nextPass(0, from));
        }
    }
}
