/** Sentences of the promises 46 to 56: figures and trials. */
final class EdgesOfFigures {
    private static final Check.Scene[] SOME = {Scenes.BUSY, Scenes.FULL};
    private static final Check.Scene[] ANY = {Scenes.EMPTY, Scenes.BUSY, Scenes.FULL, Scenes.AT_THE_END};

    private EdgesOfFigures() {
    }

    static void hold() {
        figure();
        stationFigure();
        handovers();
        meanDelay();
        efficiency();
        medianDelay();
        slowestRecord();
        deliveryForecast();
        bestPolicy();
        trialsChangeNothing();
    }

    private static void figuresAre(PassLink x, int... due) {
        for (int what = 0; what < due.length; what++) {
            Check.is("figure " + what + " at " + x.time(), x.figure(what), due[what]);
        }
    }

    private static void figure() {
        Edges.promise(46);
        Edges.limits("`what`: 0: frames sent; 1: frames lost; 2: duplicates; 3: frames in the archive; 4: delivered"
                + " records; 5: released records; 6: reports that the satellite has got; 7: contacts that were given up",
                Edges.ARGUMENT, 0, 7, PassLink::figure, ANY);
        Edges.holds("Returns that number, so far.", () -> {
            figuresAre(new PassLink(), 0, 0, 0, 0, 0, 0, 0, 0);
            PassLink x = Scenes.steady(0, 1, 3, 50, 1, 1);
            x.setGroundDelay(999);
            x.setPatience(49);
            x.addRecord(2, 0);
            x.addRecord(2, 0);
            x.setLoss(0, 1);
            x.setSeed(Draws.before(Draws.before(0)));
            x.advance(1);
            // Of three frames the second and the third are lost.
            figuresAre(x, 3, 2, 0, 1, 0, 0, 0, 0);
            x.setLoss(0, 0);
            x.advance(50);
            // Contact 0 is given up; its first frame goes again, as a duplicate.
            figuresAre(x, 4, 2, 1, 1, 0, 0, 0, 1);
            x.advance(50);
            // Its report comes; contact 1 is given up; the other three frames go.
            figuresAre(x, 7, 2, 1, 4, 2, 0, 1, 2);
            x.advance(50);
            // The report of contact 1 comes, contact 2 is given up, and one of its frames goes again.
            figuresAre(x, 8, 2, 2, 4, 2, 0, 2, 3);
            x.advance(50);
            // The report of contact 2 comes: all is released.
            figuresAre(x, 8, 2, 2, 4, 2, 2, 3, 4);
        });
        Edges.holds("Throws `IllegalArgumentException` if what is out of range", () -> {
            Edges.refuses(Edges.ARGUMENT, l -> l.figure(-1), ANY);
            Edges.refuses(Edges.ARGUMENT, l -> l.figure(8), ANY);
        });
    }

    private static void stationIs(PassLink x, int station, int... due) {
        for (int what = 0; what < due.length; what++) {
            Check.is("figure " + what + " of " + station + " at " + x.time(), x.stationFigure(station, what), due[what]);
        }
    }

    private static void stationFigure() {
        Edges.promise(47);
        Edges.limits("`station`: a station", Edges.INDEX, 0, -1, (l, v) -> l.stationFigure(v, 0), Scenes.EMPTY);
        Edges.limits("`station`: a station", Edges.INDEX, 0, 1, (l, v) -> l.stationFigure(v, 0), Scenes.BUSY);
        Edges.limits("`station`: a station", Edges.INDEX, 0, 3, (l, v) -> l.stationFigure(v, 0), Scenes.FULL);
        Edges.limits("`what`: 0: contacts with it; 1: minutes in contact with it; 2: frames sent to it; 3: frames that it"
                + " received, duplicates included; 4: reports that the satellite has got from it about contacts with"
                + " other stations", Edges.ARGUMENT, 0, 4, (l, v) -> l.stationFigure(1, v), SOME);
        Edges.holds("Returns that number, so far.", () -> {
            PassLink x = Scenes.steady(0, 2, 3, 50, 1, 1);
            x.setGroundDelay(999);
            x.setPatience(48);
            stationIs(x, 0, 0, 0, 0, 0, 0);
            x.addRecord(3, 0);
            x.setLoss(0, 1);
            x.setSeed(Draws.before(Draws.before(0)));
            x.advance(2);
            stationIs(x, 0, 1, 2, 3, 1, 0);
            stationIs(x, 1, 0, 0, 0, 0, 0);
            x.advance(49);
            // A duplicate that station 1 receives.
            stationIs(x, 1, 1, 1, 1, 1, 0);
            Check.is("duplicates", x.figure(2), 1);
            x.advance(50);
            // The report of a contact with itself does not count as one about other stations.
            Check.is("reports", x.figure(6), 1);
            stationIs(x, 0, 2, 3, 5, 3, 0);
            x.setGroundDelay(0);
            x.advance(50);
            // At 150 those of contact 1, its own, and of contact 2 with station 0.
            Check.is("reports", x.figure(6), 3);
            stationIs(x, 1, 2, 2, 1, 1, 1);
            stationIs(x, 0, 2, 4, 5, 3, 0);
        });
        Edges.holds("0: contacts with it", () -> {
            PassLink x = Scenes.steady(0, 1, 1);
            for (int n = 0; n < 70; n++) {
                x.advance(100);
            }
            Check.is("forgotten ones too", x.stationFigure(0, 0), 70);
        });
        Edges.holds("Throws `IndexOutOfBoundsException` if there is no such station", () -> {
            for (int what : new int[] {-1, 0, 4, 5}) {
                Edges.refuses(Edges.INDEX, l -> l.stationFigure(0, what), Scenes.EMPTY);
                Edges.refuses(Edges.INDEX, l -> l.stationFigure(2, what), Scenes.BUSY);
                Edges.refuses(Edges.INDEX, l -> l.stationFigure(4, what), Scenes.FULL);
                Edges.refuses(Edges.INDEX, l -> l.stationFigure(-1, what), ANY);
            }
        });
        Edges.holds("Throws `IllegalArgumentException` if what is out of range", () -> {
            Edges.refuses(Edges.ARGUMENT, l -> l.stationFigure(0, -1), SOME);
            Edges.refuses(Edges.ARGUMENT, l -> l.stationFigure(1, 5), SOME);
        });
    }

    private static void handovers() {
        Edges.promise(48);
        Edges.holds("Returns the number of handovers so far: contacts that began at the time at which another contact"
                + " ended.", () -> {
            Check.is("none", new PassLink().handovers(), 0);
            PassLink x = Scenes.steady(0, 10, 1, 10, 5, 1, 16, 5, 1);
            x.advance(10);
            Check.is("not yet", x.handovers(), 0);
            x.advance(1);
            Check.is("at 10", x.handovers(), 1);
            x.advance(6);
            Check.is("not at 16, a minute behind the end", x.handovers(), 1);
            x.advance(100);
            Check.is("at 110", x.handovers(), 2);
            // The same station again, a minute later.
            PassLink y = Scenes.steady(0, 10, 1);
            y.advance(1);
            y.setOrbit(100, 0, 90);
            y.advance(1);
            y.setOrbit(100, 0, 0);
            y.advance(1);
            Check.is("two contacts", y.contactCount(), 2);
            Check.is("no handover", y.handovers(), 0);
        });
    }

    private static void meanIs(PassLink x, int numerator, int denominator) {
        Check.is("numerator at " + x.time(), x.meanDelayNumerator(), numerator);
        Check.is("denominator at " + x.time(), x.meanDelayDenominator(), denominator);
    }

    /** Records of one frame each, added at 0 and sent one a minute: the delays are 0, 1, 2 .. */
    private static PassLink row(int records) {
        PassLink x = Scenes.steady(0, 30, 1);
        for (int n = 0; n < records; n++) {
            x.addRecord(1, 0);
        }
        return x;
    }

    private static void meanDelay() {
        Edges.promise(49);
        Edges.holds("Returns the numerator of the mean delay of all delivered records (the time at which a record was"
                + " delivered minus the time at which it was added) in lowest terms", () -> {
            PassLink x = row(4);
            x.advance(1);
            meanIs(x, 0, 1);
            x.advance(1);
            meanIs(x, 1, 2);
            x.advance(1);
            meanIs(x, 1, 1);
            x.advance(1);
            meanIs(x, 3, 2);
            // Added at 4 and delivered in that minute.
            x.addRecord(1, 0);
            x.advance(1);
            meanIs(x, 6, 5);
        });
        Edges.holds("0 if there are none.", () -> {
            Check.is("no records", new PassLink().meanDelayNumerator(), 0);
            PassLink x = Scenes.steady(0, 30, 1);
            x.addRecord(3, 0);
            x.advance(2);
            Check.is("none delivered", x.meanDelayNumerator(), 0);
        });
        Edges.promise(50);
        Edges.holds("Returns the denominator of this mean in lowest terms", () -> {
            PassLink x = row(30);
            for (int n = 1; n <= 30; n++) {
                x.advance(1);
                // The sum is n (n - 1) / 2, so the mean is (n - 1) / 2.
                Check.is("of " + n, x.meanDelayDenominator(), n % 2 == 0 ? 2 : 1);
                Check.is("numerator of " + n, x.meanDelayNumerator(), n % 2 == 0 ? n - 1 : (n - 1) / 2);
            }
        });
        Edges.holds("1 if there are no delivered records.", () -> {
            Check.is("no records", new PassLink().meanDelayDenominator(), 1);
            PassLink x = Scenes.steady(0, 30, 1);
            x.addRecord(3, 0);
            x.advance(2);
            Check.is("none delivered", x.meanDelayDenominator(), 1);
        });
    }

    private static void efficiency() {
        Edges.promise(51);
        Edges.holds("Returns the numerator of the efficiency (the frames in the archive, divided by the frames sent) in"
                + " lowest terms", () -> {
            // Behind two draws of 0 no number below 1 is drawn for a while: 2 of the frames are lost.
            PassLink x = Scenes.steady(0, 30, 1);
            x.addRecord(24, 0);
            x.setLoss(0, 1);
            x.setSeed(Draws.before(0));
            int[][] due = {{0, 1}, {0, 1}, {1, 3}, {1, 2}, {3, 5}, {2, 3}, {5, 7}, {3, 4}};
            for (int[] fraction : due) {
                x.advance(1);
                Check.is("numerator at " + x.time(), x.efficiencyNumerator(), fraction[0]);
                Check.is("denominator at " + x.time(), x.efficiencyDenominator(), fraction[1]);
            }
        });
        Edges.holds("0 if no frame is in the archive.", () -> {
            Check.is("nothing sent", new PassLink().efficiencyNumerator(), 0);
            Check.is("all lost", allLost().efficiencyNumerator(), 0);
        });
        Edges.promise(52);
        Edges.holds("Returns the denominator of the efficiency in lowest terms", () -> {
            PassLink x = Scenes.steady(0, 1, 20);
            x.addRecord(20, 0);
            x.advance(1);
            Check.is("20 of 20", x.efficiencyDenominator(), 1);
            Check.is("20 of 20", x.efficiencyNumerator(), 1);
        });
        Edges.holds("1 if no frame is in the archive.", () -> {
            Check.is("nothing sent", new PassLink().efficiencyDenominator(), 1);
            Check.is("all lost", allLost().efficiencyDenominator(), 1);
        });
    }

    /** Two frames are sent and both are lost. */
    private static PassLink allLost() {
        PassLink x = Scenes.steady(0, 1, 2);
        x.addRecord(2, 0);
        x.setLoss(0, 1);
        x.setSeed(Draws.before(0));
        x.advance(1);
        Check.is("lost", x.figure(1), 2);
        return x;
    }

    private static void medianDelay() {
        Edges.promise(53);
        Edges.holds("Returns the middle one of the delays of all delivered records in ascending order (of an even number"
                + " the lower one of the two in the middle)", () -> {
            PassLink x = row(30);
            for (int n = 1; n <= 30; n++) {
                x.advance(1);
                Check.is("of " + n, x.medianDelay(), (n - 1) / 2);
            }
            // Greater delays first: 9, then 3, 1 and 0.
            PassLink y = Scenes.steady(0, 30, 1);
            y.addRecord(10, 0);
            y.advance(10);
            Check.is("9", y.medianDelay(), 9);
            y.addRecord(4, 0);
            y.advance(4);
            Check.is("3 9", y.medianDelay(), 3);
            y.addRecord(2, 0);
            y.advance(2);
            Check.is("1 3 9", y.medianDelay(), 3);
            y.addRecord(1, 0);
            y.advance(1);
            Check.is("0 1 3 9", y.medianDelay(), 1);
        });
        Edges.holds("Returns the middle one of the delays of all delivered records in ascending order", () -> {
            PassLink x = Scenes.steady(0, 2, 20);
            for (int n = 0; n < 40; n++) {
                x.addRecord(1, 0);
            }
            x.advance(2);
            Check.is("40 delivered", x.figure(4), 40);
            Check.is("twenty 0 and twenty 1", x.medianDelay(), 0);
        });
        Edges.holds("NONE if there are none.", () -> {
            Check.is("no records", new PassLink().medianDelay(), -1);
            PassLink x = Scenes.steady(0, 30, 1);
            x.addRecord(3, 0);
            x.advance(2);
            Check.is("none delivered", x.medianDelay(), -1);
        });
    }

    private static void slowestRecord() {
        Edges.promise(54);
        Edges.holds("Returns the delivered record with the greatest delay, of several the lowest number", () -> {
            PassLink x = Scenes.steady(0, 30, 2);
            x.addRecord(1, 0);
            x.addRecord(1, 0);
            x.addRecord(24, 0);
            x.advance(1);
            Check.is("both 0", x.slowestRecord(), 0);
            x.advance(11);
            Check.is("24 frames with no end yet", x.slowestRecord(), 0);
            x.advance(1);
            Check.is("at its end", x.slowestRecord(), 2);
            PassLink y = row(40);
            y.advance(100);
            Check.is("the last of 30", y.slowestRecord(), 29);
            y.advance(10);
            Check.is("the 40th", y.slowestRecord(), 39);
        });
        Edges.holds("NONE if there are none.", () -> {
            Check.is("no records", new PassLink().slowestRecord(), -1);
            PassLink x = Scenes.steady(0, 30, 1);
            x.addRecord(3, 0);
            x.advance(2);
            Check.is("none delivered", x.slowestRecord(), -1);
        });
    }

    private static void deliveryForecast() {
        Edges.promise(55);
        Edges.limits("`record`: a record", Edges.INDEX, 0, -1, PassLink::deliveryForecast, Scenes.EMPTY);
        Edges.limits("`record`: a record", Edges.INDEX, 0, 2, PassLink::deliveryForecast, Scenes.BUSY);
        Edges.limits("`record`: a record", Edges.INDEX, 0, 39, PassLink::deliveryForecast, Scenes.FULL);
        Edges.holds("Predicts when a record will be delivered, if no frame is lost from now on and nothing is changed.",
                () -> {
                    PassLink x = Scenes.steady(0, 1, 2);
                    x.setLoss(0, 99);
                    x.addRecord(2, 0);
                    x.setSeed(Draws.before(0));
                    Check.is("none lost", x.deliveryForecast(0), 0);
                    x.advance(1);
                    Check.is("both were lost", x.figure(1), 2);
                    Check.is("by the next contact", x.deliveryForecast(0), 100);
                    Check.is("the loss stays", x.setLoss(0, 0), 99);
                    x.advance(100);
                    Check.is("so it came", x.deliveredAt(0), 100);
                });
        Edges.holds("Returns the time; NONE if it will not be delivered in the next 3000 minutes (nor was before).", () -> {
            PassLink none = new PassLink();
            none.addRecord(1, 0);
            Check.is("no stations", none.deliveryForecast(0), -1);
            PassLink now = Scenes.steady(0, 1, 1);
            now.addRecord(1, 0);
            Check.is("in the present minute", now.deliveryForecast(0), 0);
            // Orbit 15 of 198 minutes begins at 2970, the first over the station.
            for (int phase = 29; phase <= 30; phase++) {
                PassLink x = new PassLink();
                x.setOrbit(198, 1, 0);
                x.addStation(15, 0, 1, phase, 1, 0);
                x.addRecord(1, 0);
                Check.is("at " + (2970 + phase), x.deliveryForecast(0), phase == 29 ? 2999 : -1);
                x.advance(1);
                Check.is("at 1, at " + (2970 + phase), x.deliveryForecast(0), 2970 + phase);
            }
        });
        Edges.holds("(nor was before)", () -> {
            PassLink x = Scenes.steady(0, 1, 1);
            x.addRecord(1, 0);
            x.advance(1);
            x.setOrbit(100, 0, 90);
            Check.is("just now", x.deliveryForecast(0), 0);
            x.advance(1440);
            x.advance(1440);
            x.advance(1440);
            Check.is("long ago", x.deliveryForecast(0), 0);
        });
        Edges.holds("Throws `IndexOutOfBoundsException` if there is no such record", () -> {
            Edges.refuses(Edges.INDEX, l -> l.deliveryForecast(0), Scenes.EMPTY);
            Edges.refuses(Edges.INDEX, l -> l.deliveryForecast(3), Scenes.BUSY);
            Edges.refuses(Edges.INDEX, l -> l.deliveryForecast(40), Scenes.FULL, Scenes.AT_THE_END);
            Edges.refuses(Edges.INDEX, l -> l.deliveryForecast(-1), ANY);
        });
    }

    /** LONGEST goes over at minute 5 to a station with another rate; STAY stays until 10. */
    private static PassLink either(int rate, int otherRate) {
        PassLink x = Scenes.steady(0, 10, rate, 5, 15, otherRate);
        x.setMemory(960);
        for (int n = 0; n < 20; n++) {
            x.addRecord(24, 0);
        }
        return x;
    }

    private static void bestPolicy() {
        Edges.promise(56);
        Edges.limits("`minutes`: 1 to 1440", Edges.ARGUMENT, 1, 1440, PassLink::bestPolicy, ANY);
        Edges.holds("Finds the policy by which more frames will be in the archive, if it were set now, after some"
                + " minutes", () -> {
            for (int set = 0; set <= 1; set++) {
                PassLink x = either(1, 2);
                x.setPolicy(set);
                Check.is("after 5", x.bestPolicy(5), 0);
                Check.is("after 6", x.bestPolicy(6), 1);
                PassLink y = either(2, 1);
                y.setPolicy(set);
                Check.is("after 6, the other way round", y.bestPolicy(6), 0);
                y.advance(5);
                Check.is("after 1", y.bestPolicy(1), 0);
                x.advance(5);
                Check.is("after 1, the other way round", x.bestPolicy(1), 1);
            }
        });
        Edges.holds("with the random generator as it is.", () -> {
            // Both stations lose what is drawn below 50 or 51: only a draw of 50 makes a difference.
            for (int draw = 49; draw <= 51; draw++) {
                PassLink x = Scenes.steady(0, 10, 1, 5, 15, 1);
                x.setLoss(0, 51);
                x.setLoss(1, 50);
                x.advance(5);
                x.addRecord(1, 0);
                x.setSeed(Draws.seedFor(draw));
                Check.is("drawn " + draw, x.bestPolicy(1), draw == 50 ? 1 : 0);
                Check.is("again, as it was", x.bestPolicy(1), draw == 50 ? 1 : 0);
            }
        });
        Edges.holds("Returns the policy, of both the lower one if there is no difference.", () -> {
            Check.is("no stations", new PassLink().bestPolicy(1), 0);
            Check.is("no stations", new PassLink().bestPolicy(1440), 0);
            PassLink x = either(3, 3);
            x.setPolicy(1);
            Check.is("the same rate", x.bestPolicy(1440), 0);
            PassLink y = either(1, 20);
            Check.is("a frame is missing by STAY", y.bestPolicy(20), 1);
            Check.is("until both have all", y.bestPolicy(1440), 0);
        });
        Edges.holds("Throws `IllegalArgumentException` if minutes is out of range", () -> {
            Edges.refuses(Edges.ARGUMENT, l -> l.bestPolicy(0), ANY);
            Edges.refuses(Edges.ARGUMENT, l -> l.bestPolicy(1441), ANY);
        });
    }

    private static void trialsChangeNothing() {
        for (Check.Scene scene : SOME) {
            Edges.promise(55);
            Edges.holds("nothing is changed", () -> Check.same("behind it", () -> {
                PassLink x = scene.make();
                x.deliveryForecast(2);
                return x;
            }, scene));
            Edges.promise(56);
            Edges.holds("with the random generator as it is", () -> Check.same("behind it", () -> {
                PassLink x = scene.make();
                x.bestPolicy(500);
                return x;
            }, scene));
        }
        Edges.promise(55);
        Edges.holds("in the next 3000 minutes", () -> {
            // The time 20000 binds what takes place, not what is foreseen.
            PassLink x = Scenes.steady(1, 1, 1);
            x.addRecord(1, 0);
            x.setOrbit(100, 0, 90);
            while (x.time() < 20000) {
                x.advance(1000);
            }
            x.setOrbit(100, 0, 0);
            Check.is("at 20000", x.deliveryForecast(0), 20001);
        });
    }
}
