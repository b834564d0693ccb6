/** Sentences of the terms: orbit and passes. */
final class EdgesOfSky {
    private EdgesOfSky() {
    }

    static void hold() {
        times();
        orbit();
        longitudes();
        stations();
        distances();
        passes();
        visibility();
    }

    private static void times() {
        Edges.terms();
        Edges.holds("Passes over ground stations are predicted from the orbit, records are sent frame by frame in"
                + " contacts, fresh and important data first, the ground acknowledges all frames of a contact together in"
                + " a later contact, perhaps at another station, and lost frames are sent again.", () -> {
            PassLink x = Scenes.steady(0, 1, 3, 50, 1, 3);
            x.setGroundDelay(49);
            x.addRecord(1, 1);
            x.addRecord(2, 2);
            x.setLoss(0, 1);
            x.setSeed(Draws.before(Draws.before(0)));
            x.advance(1);
            Check.is("important data first", x.frames(1, 3), 1);
            Check.is("two frames are lost", x.figure(1), 2);
            x.advance(50);
            Check.is("acknowledged at another station", x.frames(1, 2), 1);
            Check.is("and sent again", x.figure(3), 3);
        });
        Edges.holds("Every record is delivered to the archive once.", () -> {
            PassLink x = Scenes.steady(0, 1, 3, 50, 1, 3);
            x.setGroundDelay(999);
            x.setPatience(1);
            x.addRecord(3, 0);
            x.advance(51);
            Check.is("all of it came twice", x.figure(2), 3);
            Check.is("at the first time", x.deliveredAt(0), 0);
            Check.is("once", x.figure(4), 1);
            Check.is("in the archive", x.figure(3), 3);
        });
        Edges.holds("Times are minutes, counted from 0.", () -> {
            PassLink x = Scenes.steady(0, 1, 1);
            Check.is("the first time", x.time(), 0);
            x.advance(1);
            Check.is("the first minute was minute 0", x.contactBegin(0), 0);
        });
        Edges.holds("Minute t is the time from t to t + 1.", () -> {
            PassLink x = Scenes.steady(7, 1, 1);
            x.advance(7);
            Check.is("minute 7 is ahead", x.contactCount(), 0);
            Check.is("at the time", x.time(), 7);
            x.advance(1);
            Check.is("it begins", x.contactBegin(0), 7);
            x.advance(1);
            Check.is("it ends", x.contactEnd(0), 8);
        });
    }

    private static void orbit() {
        Edges.limits("The satellite has an orbit period (60 to 200 minutes, 90 at first)", Edges.ARGUMENT, 60, 200,
                (l, v) -> l.setOrbit(v, 0, 0), Scenes.EMPTY);
        Edges.limits("a shift (0 to 359 degrees, 24 at first)", Edges.ARGUMENT, 0, 359,
                (l, v) -> l.setOrbit(90, v, 0), Scenes.EMPTY);
        Edges.limits("a node (0 to 359 degrees, 0 at first)", Edges.ARGUMENT, 0, 359,
                (l, v) -> l.setOrbit(90, 0, v), Scenes.EMPTY);
        Edges.holds("90 at first", () -> {
            PassLink x = new PassLink();
            x.addStation(24, 0, 1, 0, 1, 0);
            Check.is("orbit 1", x.passBegin(0, 1), 90);
            Check.is("orbit 16", x.passBegin(0, 16), 1440);
            Check.is("told", x.setOrbit(60, 0, 0), 90);
        });
        Edges.holds("24 at first", () -> {
            for (int longitude = 23; longitude <= 25; longitude++) {
                PassLink x = new PassLink();
                x.addStation(longitude, 0, 1, 0, 1, 0);
                Check.is("orbit 1 over " + longitude, x.passBegin(0, 1), longitude == 24 ? 90 : -1);
            }
        });
        Edges.holds("0 at first", () -> {
            for (int longitude : new int[] {359, 0, 1}) {
                PassLink x = new PassLink();
                x.addStation(longitude, 0, 1, 0, 1, 0);
                Check.is("orbit 0 over " + longitude, x.passBegin(0, 0), longitude == 0 ? 0 : -1);
            }
        });
        Edges.holds("Orbits are numbered from 0; orbit k begins at the time k * period", () -> {
            for (int period : new int[] {60, 61, 199, 200}) {
                PassLink x = new PassLink();
                x.setOrbit(period, 0, 0);
                x.addStation(0, 0, 1, 0, 1, 0);
                for (int k : new int[] {0, 1, 2, 998, 999}) {
                    Check.is("orbit " + k + " of " + period, x.passBegin(0, k), k * period);
                    Check.is("its number", x.passTable(Math.min(99999, k * period), 0, 3),
                            k * period <= 99999 ? k : (99999 + period - 1) / period);
                }
            }
        });
    }

    private static void longitudes() {
        Edges.holds("its longitude is (node + k * shift) modulo 360.", () -> {
            int[][] nodeAndShift = {{0, 0}, {0, 359}, {359, 0}, {359, 1}, {1, 359}, {359, 359}, {180, 180}, {0, 24},
                {123, 217}};
            for (int[] pair : nodeAndShift) {
                for (int k : new int[] {0, 1, 2, 14, 15, 16, 359, 360, 361, 719, 720, 998, 999}) {
                    int longitude = (int) Math.floorMod(pair[0] + (long) k * pair[1], 360L);
                    for (int beside = -1; beside <= 1; beside++) {
                        PassLink x = new PassLink();
                        x.setOrbit(60, pair[1], pair[0]);
                        x.addStation(Math.floorMod(longitude + beside, 360), 0, 1, 3, 1, 0);
                        Check.is(pair[0] + " + " + k + " * " + pair[1] + ", " + beside + " beside it", x.passBegin(0, k),
                                beside == 0 ? 60 * k + 3 : -1);
                    }
                }
            }
        });
    }

    private static void stations() {
        Edges.holds("There are at most 4 ground stations, numbered from 0.", () -> {
            PassLink x = new PassLink();
            for (int number = 0; number < 4; number++) {
                Check.is("number", x.addStation(0, 0, 1, number, 1, 0), number);
            }
            Check.is("a fifth", Check.thrownBy(x, l -> l.addStation(0, 0, 1, 0, 1, 0)), "IllegalStateException");
            for (int number = 0; number < 4; number++) {
                Check.is("begin", x.passBegin(number, 0), number);
            }
        });
        Check.Scene[] open = {Scenes.EMPTY};
        Edges.limits("A station has a longitude (0 to 359 degrees)", Edges.ARGUMENT, 0, 359,
                (l, v) -> l.addStation(v, 0, 1, 0, 1, 0), open);
        Edges.limits("a reach (0 to 90 degrees)", Edges.ARGUMENT, 0, 90, (l, v) -> l.addStation(0, v, 1, 0, 1, 0), open);
        Edges.limits("a length (1 to 30 minutes)", Edges.ARGUMENT, 1, 30, (l, v) -> l.addStation(0, 0, v, 0, 1, 0), open);
        Edges.limits("a phase (0 to 59 minutes)", Edges.ARGUMENT, 0, 59, (l, v) -> l.addStation(0, 0, 1, v, 1, 0), open);
        Edges.limits("a rate (1 to 20 frames per minute)", Edges.ARGUMENT, 1, 20,
                (l, v) -> l.addStation(0, 0, 1, 0, v, 0), open);
        Edges.limits("a loss (0 to 99 percent).", Edges.ARGUMENT, 0, 99, (l, v) -> l.addStation(0, 0, 1, 0, 1, v), open);
    }

    /** How far two longitudes are apart, by walking both ways round the circle. */
    private static int apart(int one, int other) {
        int steps = 0;
        while ((one + steps) % 360 != other && (other + steps) % 360 != one) {
            steps++;
        }
        return steps;
    }

    private static void distances() {
        Edges.holds("Let d be the distance of the longitudes of the station and of an orbit around the circle (0 to"
                + " 180).", () -> {
            Check.is("half a circle", apart(0, 180), 180);
            Check.is("a bit more", apart(0, 181), 179);
            for (int longitude : new int[] {0, 1, 89, 90, 91, 179, 180, 181, 269, 270, 271, 358, 359}) {
                // By the reach 90 and the length 30 the distance is told by the end: 30 * (91 - d) / 91.
                PassLink x = new PassLink();
                x.setOrbit(60, 1, 0);
                x.addStation(longitude, 90, 30, 0, 1, 0);
                for (int orbit = 0; orbit < 360; orbit++) {
                    int d = apart(longitude, orbit);
                    int due = d > 90 ? -1 : 60 * orbit + (30 * (91 - d) + 90) / 91;
                    Check.is("station at " + longitude + ", orbit at " + orbit, x.passEnd(0, orbit), due);
                }
            }
        });
        Edges.holds("If d is at most the reach, there is a pass of the station in this orbit", () -> {
            for (int longitude : new int[] {0, 45, 180, 359}) {
                for (int reach : new int[] {0, 1, 44, 45, 46, 89, 90}) {
                    for (int side = -1; side <= 1; side += 2) {
                        PassLink x = new PassLink();
                        x.addStation(longitude, reach, 30, 1, 1, 0);
                        x.setOrbit(60, 0, Math.floorMod(longitude + side * reach, 360));
                        Check.is("d is the reach " + reach, x.passBegin(0, 0), 1);
                        x.setOrbit(60, 0, Math.floorMod(longitude + side * (reach + 1), 360));
                        Check.is("d is the reach " + reach + " and 1", x.passBegin(0, 0), -1);
                        x.setOrbit(60, 0, longitude);
                        Check.is("d is 0", x.passBegin(0, 0), 1);
                        x.setOrbit(60, 0, Math.floorMod(longitude + 180, 360));
                        Check.is("d is 180", x.passBegin(0, 0), -1);
                    }
                }
            }
        });
    }

    private static void passes() {
        Edges.holds("it begins at the beginning of the orbit plus the phase", () -> {
            for (int phase : new int[] {0, 1, 58, 59}) {
                PassLink x = Scenes.steady(phase, 30, 1);
                Check.is("orbit 0 by " + phase, x.passBegin(0, 0), phase);
                Check.is("orbit 7 by " + phase, x.passBegin(0, 7), 700 + phase);
                x.advance(phase + 1);
                Check.is("the contact by " + phase, x.contactBegin(0), phase);
            }
        });
        Edges.holds("it lasts (length * (reach + 1 - d)) / (reach + 1) minutes, rounded up.", () -> {
            for (int reach : new int[] {0, 1, 2, 6, 9, 29, 89, 90}) {
                for (int length : new int[] {1, 2, 10, 29, 30}) {
                    PassLink x = new PassLink();
                    x.setOrbit(60, 1, 0);
                    x.addStation(0, reach, length, 0, 1, 0);
                    for (int d = 0; d <= reach; d++) {
                        int minutes = 0;
                        while (minutes * (reach + 1) < length * (reach + 1 - d)) {
                            minutes++;
                        }
                        Check.is(length + " by " + reach + " at " + d, x.passEnd(0, d) - x.passBegin(0, d), minutes);
                    }
                }
            }
        });
        Edges.holds("rounded up.", () -> {
            PassLink x = new PassLink();
            x.setOrbit(60, 1, 0);
            x.addStation(0, 2, 30, 0, 1, 0);
            x.addStation(0, 2, 1, 0, 1, 0);
            x.addStation(0, 2, 29, 0, 1, 0);
            Check.is("20 is 20", x.passEnd(0, 1), 80);
            Check.is("10 is 10", x.passEnd(0, 2), 130);
            Check.is("a third of a minute is 1", x.passEnd(1, 2), 121);
            Check.is("19 and a third are 20", x.passEnd(2, 1), 80);
            Check.is("9 and two thirds are 10", x.passEnd(2, 2), 130);
        });
    }

    private static void visibility() {
        Edges.holds("The station is visible in the minutes from the beginning of a pass to the minute before its end.",
                () -> {
                    for (int[] phaseAndLength : new int[][] {{0, 1}, {0, 30}, {59, 1}, {59, 30}, {29, 30}, {30, 30}}) {
                        PassLink x = new PassLink();
                        x.setOrbit(60, 180, 0);
                        int phase = phaseAndLength[0];
                        int length = phaseAndLength[1];
                        x.addStation(0, 0, length, phase, 1, 0);
                        // The orbits 0, 2 and 4 pass the station, 1 and 3 do not.
                        for (int minute = 0; minute < 300; minute++) {
                            int since = minute - phase;
                            boolean due = since >= 0 && since % 120 < length;
                            Check.is("minute " + minute + " by " + phase + ", " + length, x.isVisible(0, minute), due);
                        }
                        Check.is("coverage", x.coverage(0, 0, 120), length);
                    }
                });
    }
}
