/** Promises 55 and 56: trials, which change nothing. */
public final class TrialsTest {
    public static void main(String[] args) {
        forecast();
        forecastAtTheEdge();
        forecastWithoutLosses();
        forecastOfTheDelivered();
        forecastOfTheFresh();
        forecastBeyondTheLastTime();
        policies();
        policiesByChance();
        nothingChanges();
        wrongTrials();
        Check.end();
    }

    private static void forecast() {
        PassLink x = Scenes.steady(5, 10, 4);
        x.addRecord(6, 2);
        x.addRecord(3, 9);
        Check.is("the urgent one", x.deliveryForecast(1), 5);
        Check.is("the other", x.deliveryForecast(0), 7);
        Check.is("time", x.time(), 0);
        Check.is("no station", noStation(), -1);
    }

    private static int noStation() {
        PassLink x = new PassLink();
        x.addRecord(1, 0);
        return x.deliveryForecast(0);
    }

    private static void forecastAtTheEdge() {
        PassLink x = PredictionsTest.late(29, 1);
        x.addRecord(1, 0);
        x.addRecord(1, 0);
        Check.is("in the last of 3000 minutes", x.deliveryForecast(0), 2999);
        Check.is("not the second", x.deliveryForecast(1), -1);
        PassLink y = PredictionsTest.late(30, 1);
        y.addRecord(1, 0);
        Check.is("a minute too late", y.deliveryForecast(0), -1);
        y.advance(1);
        Check.is("a minute later", y.deliveryForecast(0), 3000);
    }

    /** What is lost already stays lost: its frame comes back with the report at 100. */
    private static void forecastWithoutLosses() {
        PassLink x = Scenes.steady(0, 2, 1);
        x.setLoss(0, 99);
        x.addRecord(2, 0);
        Check.is("from now on", x.deliveryForecast(0), 1);
        x.advance(1);
        Check.is("one was lost", x.deliveryForecast(0), 100);
        Check.is("the loss is as it was", x.setLoss(0, 99), 99);
    }

    /** Record 1 is fresh at 35, 25 minutes behind its adding, and goes first; record 0 no longer is. */
    private static void forecastOfTheFresh() {
        PassLink x = Scenes.steady(35, 2, 1);
        x.addRecord(1, 1);
        x.advance(10);
        x.addRecord(1, 0);
        Check.is("the fresh one", x.deliveryForecast(1), 35);
        Check.is("the other", x.deliveryForecast(0), 36);
    }

    private static void forecastOfTheDelivered() {
        PassLink x = Scenes.steady(0, 2, 1);
        x.addRecord(1, 0);
        x.advance(1440);
        x.advance(1440);
        x.advance(1440);
        Check.is("long ago", x.deliveryForecast(0), 0);
        x.setOrbit(100, 0, 90);
        Check.is("without any pass", x.deliveryForecast(0), 0);
    }

    /** The next 3000 minutes are counted from the present time, whatever it is. */
    private static void forecastBeyondTheLastTime() {
        PassLink x = Scenes.steady(50, 2, 1);
        for (int n = 0; n < 14; n++) {
            x.advance(1428);
        }
        x.advance(8);
        x.addRecord(1, 0);
        Check.is("at 20000", x.deliveryForecast(0), 20050);
        Check.is("next contact", x.nextContact(1), 20050);
        Check.is("policy", x.bestPolicy(1440), 0);
    }

    private static void policies() {
        PassLink x = Scenes.steady(0, 10, 1, 5, 15, 20);
        for (int n = 0; n < 8; n++) {
            x.addRecord(24, 0);
        }
        Check.is("no difference until 5", x.bestPolicy(5), 0);
        Check.is("LONGEST from 6 on", x.bestPolicy(6), 1);
        Check.is("until all is there", x.bestPolicy(100), 0);
        x.setPolicy(1);
        Check.is("whatever is set", x.bestPolicy(6), 1);
        Check.is("whatever is set", x.bestPolicy(5), 0);
        PassLink y = Scenes.steady(0, 10, 20, 5, 15, 1);
        for (int n = 0; n < 12; n++) {
            y.addRecord(24, 0);
        }
        y.setPolicy(1);
        Check.is("STAY", y.bestPolicy(6), 0);
        Check.is("nothing to do", new PassLink().bestPolicy(1440), 0);
    }

    /** The first draw is 38 or 8, and STAY loses what is drawn below 30: the generator decides. */
    private static void policiesByChance() {
        int[][] seedAndDue = {{1, 0}, {2, 1}};
        for (int[] pair : seedAndDue) {
            PassLink x = Scenes.steady(0, 10, 1, 5, 15, 1);
            x.setLoss(0, 30);
            x.advance(5);
            x.addRecord(1, 0);
            x.setSeed(pair[0]);
            Check.is("seed " + pair[0], x.bestPolicy(1), pair[1]);
            x.advance(1);
            Check.is("as it came", x.figure(1), pair[1]);
        }
    }

    private static void nothingChanges() {
        Check.same("state", () -> {
            PassLink x = Scenes.busy();
            x.deliveryForecast(2);
            x.bestPolicy(700);
            x.nextContact(2);
            return x;
        }, Scenes.BUSY);
    }

    private static void wrongTrials() {
        for (int record : new int[] {-1, 3, 40, Integer.MAX_VALUE}) {
            Check.refuses("forecast", IndexOutOfBoundsException.class, Scenes.BUSY, l -> l.deliveryForecast(record));
        }
        for (int minutes : new int[] {0, -1, 1441, Integer.MAX_VALUE}) {
            Check.refuses("policy", IllegalArgumentException.class, Scenes.BUSY, l -> l.bestPolicy(minutes));
        }
    }
}
