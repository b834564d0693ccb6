/** Promises 46 to 54: figures. */
public final class FiguresTest {
    public static void main(String[] args) {
        figures();
        stationFigures();
        handovers();
        nothingDelivered();
        means();
        medians();
        slowest();
        efficiency();
        wrongFigures();
        Check.end();
    }

    private static void figuresAre(PassLink x, int... due) {
        for (int what = 0; what < due.length; what++) {
            Check.is("figure " + what, x.figure(what), due[what]);
        }
    }

    /** Draws from the state 1: 38, 58, 13, 15, 51, 27, ... */
    private static void figures() {
        PassLink x = Scenes.steady(0, 2, 2, 50, 2, 1);
        x.setLoss(0, 20);
        x.setGroundDelay(999);
        x.setPatience(48);
        x.addRecord(4, 1);
        x.addRecord(1, 0);
        x.advance(1);
        figuresAre(x, 2, 0, 0, 2, 0, 0, 0, 0);
        x.advance(1);
        figuresAre(x, 4, 2, 0, 2, 0, 0, 0, 0);
        // Contact 0 is given up; frames 0 and 1 go again as duplicates.
        x.setLoss(0, 0);
        x.advance(50);
        figuresAre(x, 6, 2, 2, 2, 0, 0, 0, 1);
        // At 100 its report comes after all, and contact 1 is given up. Frames 2 and 3 go, then record 1.
        x.advance(50);
        figuresAre(x, 9, 2, 2, 5, 2, 0, 1, 2);
        // At 150 the report of contact 1 comes; contact 2 is given up, and its frames 2 and 3 go again.
        x.advance(50);
        figuresAre(x, 11, 2, 4, 5, 2, 0, 2, 3);
        // At 200 the report of contact 2 comes ahead of record 1's second way; contact 3 is given up.
        x.advance(50);
        figuresAre(x, 11, 2, 4, 5, 2, 2, 3, 4);
    }

    private static void stationFigures() {
        PassLink x = Scenes.steady(0, 2, 2, 50, 3, 1);
        x.setLoss(0, 20);
        x.addRecord(5, 0);
        x.advance(2);
        stationIs(x, 0, 1, 2, 4, 2, 0);
        stationIs(x, 1, 0, 0, 0, 0, 0);
        x.setGroundDelay(48);
        x.advance(98);
        // At 50 the report of contact 0 comes by station 1; frames 2 and 3 go again, then frame 4.
        stationIs(x, 0, 1, 2, 4, 2, 0);
        stationIs(x, 1, 1, 3, 3, 3, 1);
        x.advance(1);
        // At 100 contact 1 ended 47 minutes ago: no report. At 150 both others' are there, one of them its own.
        stationIs(x, 0, 2, 3, 4, 2, 0);
        x.advance(60);
        stationIs(x, 0, 2, 4, 4, 2, 0);
        stationIs(x, 1, 2, 6, 3, 3, 2);
        Check.is("all reports", x.figure(6), 3);
        Check.is("all released", x.releasedAt(0), 150);
    }

    private static void stationIs(PassLink x, int station, int... due) {
        for (int what = 0; what < due.length; what++) {
            Check.is("figure " + what + " of " + station, x.stationFigure(station, what), due[what]);
        }
    }

    private static void handovers() {
        PassLink x = Scenes.steady(0, 10, 1, 5, 15, 1, 21, 2, 1);
        Check.is("none", x.handovers(), 0);
        x.advance(10);
        Check.is("not yet", x.handovers(), 0);
        x.advance(1);
        Check.is("at 10", x.handovers(), 1);
        x.advance(89);
        Check.is("none at 21, a minute later", x.handovers(), 1);
        x.advance(100);
        Check.is("at 110", x.handovers(), 2);
    }

    private static void nothingDelivered() {
        PassLink x = Scenes.steady(0, 1, 1);
        x.setLoss(0, 99);
        x.addRecord(2, 0);
        meanIs(x, 0, 1);
        efficiencyIs(x, 0, 1);
        Check.is("median", x.medianDelay(), -1);
        Check.is("slowest", x.slowestRecord(), -1);
        x.advance(1);
        efficiencyIs(x, 0, 1);
        x.setLoss(0, 0);
        x.advance(100);
        efficiencyIs(x, 1, 2);
        meanIs(x, 0, 1);
    }

    private static void meanIs(PassLink x, int numerator, int denominator) {
        Check.is("mean's numerator", x.meanDelayNumerator(), numerator);
        Check.is("mean's denominator", x.meanDelayDenominator(), denominator);
    }

    private static void efficiencyIs(PassLink x, int numerator, int denominator) {
        Check.is("efficiency's numerator", x.efficiencyNumerator(), numerator);
        Check.is("efficiency's denominator", x.efficiencyDenominator(), denominator);
    }

    private static void means() {
        PassLink x = Scenes.steady(0, 30, 1);
        x.addRecord(1, 0);
        x.addRecord(1, 0);
        x.advance(1);
        meanIs(x, 0, 1);
        x.advance(1);
        meanIs(x, 1, 2);
        x.addRecord(3, 0);
        x.advance(3);
        meanIs(x, 1, 1);
        x.addRecord(4, 0);
        x.advance(4);
        meanIs(x, 3, 2);
        x.addRecord(24, 0);
        x.advance(4);
        meanIs(x, 3, 2);
    }

    /** Records of the sizes 9, 2, 5, 4 one after the other have the delays 8, 10, 15, 19 or parts of them. */
    private static void medians() {
        PassLink x = Scenes.steady(0, 30, 1);
        for (int size : new int[] {9, 2, 5, 4}) {
            x.addRecord(size, 0);
        }
        x.advance(9);
        Check.is("of one", x.medianDelay(), 8);
        x.advance(2);
        Check.is("of two the lower", x.medianDelay(), 8);
        x.advance(5);
        Check.is("of three", x.medianDelay(), 10);
        x.advance(4);
        Check.is("of four the lower", x.medianDelay(), 10);
        // Younger records with short delays come to the front.
        x.addRecord(1, 0);
        x.advance(1);
        Check.is("of 0 8 10 15 19", x.medianDelay(), 10);
        x.addRecord(1, 0);
        x.advance(1);
        Check.is("of 0 0 8 10 15 19", x.medianDelay(), 8);
    }

    private static void slowest() {
        PassLink x = Scenes.steady(0, 30, 2);
        x.addRecord(1, 5);
        x.addRecord(3, 4);
        x.addRecord(4, 3);
        x.advance(1);
        Check.is("the only one", x.slowestRecord(), 0);
        x.advance(1);
        Check.is("1 is slower", x.slowestRecord(), 1);
        x.advance(2);
        Check.is("2 is slower still", x.slowestRecord(), 2);
        x.addRecord(7, 0);
        x.advance(4);
        Check.is("as slow: the lowest", x.slowestRecord(), 2);
        x.addRecord(24, 0);
        x.advance(10);
        Check.is("what is not delivered does not count", x.slowestRecord(), 2);
    }

    private static void efficiency() {
        PassLink x = Scenes.steady(0, 2, 3);
        x.setLoss(0, 20);
        x.addRecord(6, 0);
        x.advance(2);
        // Draws 38 58 13 15 51 27: two of six are lost.
        efficiencyIs(x, 2, 3);
        x.setLoss(0, 0);
        x.advance(99);
        efficiencyIs(x, 3, 4);
        PassLink y = Scenes.steady(0, 2, 3);
        y.addRecord(5, 0);
        y.advance(2);
        efficiencyIs(y, 1, 1);
    }

    private static void wrongFigures() {
        for (int what : new int[] {-1, 8, Integer.MIN_VALUE, Integer.MAX_VALUE}) {
            Check.refuses("figure", IllegalArgumentException.class, Scenes.BUSY, l -> l.figure(what));
        }
        for (int what : new int[] {-1, 5}) {
            Check.refuses("station's", IllegalArgumentException.class, Scenes.BUSY, l -> l.stationFigure(0, what));
        }
        for (int station : new int[] {-1, 2, Integer.MAX_VALUE}) {
            Check.refuses("station", IndexOutOfBoundsException.class, Scenes.BUSY, l -> l.stationFigure(station, 0));
            Check.refuses("station first", IndexOutOfBoundsException.class, Scenes.BUSY,
                    l -> l.stationFigure(station, 5));
        }
    }
}
