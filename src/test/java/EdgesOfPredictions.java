/** Sentences of the promises 12 to 21: what is predicted from the orbit and the stations. */
final class EdgesOfPredictions {
    private static final Check.Scene[] SOME = {Scenes.BUSY, Scenes.FULL};
    private static final Check.Scene[] ANY = {Scenes.EMPTY, Scenes.BUSY, Scenes.FULL, Scenes.AT_THE_END};

    private EdgesOfPredictions() {
    }

    static void hold() {
        passBegin();
        passEnd();
        isVisible();
        passTable();
        passTableAtItsEnds();
        nextContact();
        nextContactAtItsEnds();
        coverage();
        longestGap();
        bestStation();
        nextPass();
        passFrames();
    }

    /** The stations of the scenes: none, 2 and 4. */
    private static void stationLimits(Edges.Numbered call) {
        Edges.limits("`station`: a station", Edges.INDEX, 0, -1, call, Scenes.EMPTY);
        Edges.limits("`station`: a station", Edges.INDEX, 0, 1, call, Scenes.BUSY);
        Edges.limits("`station`: a station", Edges.INDEX, 0, 3, call, Scenes.FULL);
    }

    /** The station is looked at first: this is refused for it, whatever the other number is. */
    private static void noSuchStation(Edges.Numbered ofNone, Edges.Numbered of2, Edges.Numbered of4) {
        Edges.holds("Throws `IndexOutOfBoundsException` if there is no such station", () -> {
            for (int other : new int[] {0, -1, 100000, Integer.MIN_VALUE}) {
                Edges.refuses(Edges.INDEX, l -> ofNone.on(l, other), Scenes.EMPTY);
                Edges.refuses(Edges.INDEX, l -> of2.on(l, other), Scenes.BUSY);
                Edges.refuses(Edges.INDEX, l -> of4.on(l, other), Scenes.FULL);
            }
        });
    }

    /** Orbit k has the longitude k; one station sees the orbits 357 to 363, another 0 alone. */
    private static PassLink turning() {
        PassLink x = new PassLink();
        x.setOrbit(100, 1, 0);
        x.addStation(0, 3, 8, 5, 2, 0);
        x.addStation(0, 0, 30, 59, 20, 0);
        return x;
    }

    private static void passBegin() {
        Edges.promise(12);
        stationLimits((l, v) -> l.passBegin(v, 0));
        Edges.limits("`orbit`: 0 to 999", Edges.ARGUMENT, 0, 999, (l, v) -> l.passBegin(0, v), SOME);
        Edges.holds("Returns the time at which its pass in the orbit begins", () -> {
            PassLink x = turning();
            Check.is("orbit 0", x.passBegin(0, 0), 5);
            Check.is("orbit 0 of the other", x.passBegin(1, 0), 59);
            Check.is("orbit 3", x.passBegin(0, 3), 305);
            Check.is("orbit 357", x.passBegin(0, 357), 35705);
            Check.is("orbit 720 of the other", x.passBegin(1, 720), 72059);
            PassLink y = Scenes.steady(59, 1, 1);
            Check.is("orbit 999", y.passBegin(0, 999), 99959);
            y.setOrbit(200, 0, 0);
            Check.is("the latest of all", y.passBegin(0, 999), 199859);
        });
        Edges.holds("NONE if there is no pass.", () -> {
            PassLink x = turning();
            Check.is("orbit 4", x.passBegin(0, 4), -1);
            Check.is("orbit 356", x.passBegin(0, 356), -1);
            Check.is("orbit 1 of the other", x.passBegin(1, 1), -1);
            Check.is("orbit 999", x.passBegin(0, 999), -1);
        });
        noSuchStation((l, v) -> l.passBegin(0, v), (l, v) -> l.passBegin(2, v), (l, v) -> l.passBegin(4, v));
        Edges.holds("Throws `IllegalArgumentException` if orbit is out of range", () -> {
            Edges.refuses(Edges.ARGUMENT, l -> l.passBegin(0, -1), SOME);
            Edges.refuses(Edges.ARGUMENT, l -> l.passBegin(1, 1000), SOME);
        });
    }

    private static void passEnd() {
        Edges.promise(13);
        stationLimits((l, v) -> l.passEnd(v, 0));
        Edges.limits("`orbit`: 0 to 999", Edges.ARGUMENT, 0, 999, (l, v) -> l.passEnd(0, v), SOME);
        Edges.holds("Returns the time at which its pass in the orbit ends (the last minute in which it is visible, plus 1)",
                () -> {
                    PassLink x = turning();
                    int[] minutes = {8, 6, 4, 2};
                    for (int orbit = 0; orbit < 4; orbit++) {
                        int end = 100 * orbit + 5 + minutes[orbit];
                        Check.is("orbit " + orbit, x.passEnd(0, orbit), end);
                        Check.is("the last minute", x.isVisible(0, end - 1), true);
                        Check.is("the minute behind it", x.isVisible(0, end), false);
                    }
                    Check.is("orbit 357", x.passEnd(0, 357), 35707);
                    PassLink y = new PassLink();
                    y.setOrbit(60, 0, 0);
                    y.addStation(0, 0, 30, 59, 1, 0);
                    Check.is("in the next orbit", y.passEnd(0, 0), 89);
                    Check.is("in an orbit that has no number here", y.passEnd(0, 999), 999 * 60 + 89);
                });
        Edges.holds("NONE if there is no pass.", () -> {
            PassLink x = turning();
            Check.is("orbit 4", x.passEnd(0, 4), -1);
            Check.is("orbit 356", x.passEnd(0, 356), -1);
            Check.is("orbit 999", x.passEnd(0, 999), -1);
        });
        noSuchStation((l, v) -> l.passEnd(0, v), (l, v) -> l.passEnd(2, v), (l, v) -> l.passEnd(4, v));
        Edges.holds("Throws `IllegalArgumentException` if orbit is out of range", () -> {
            Edges.refuses(Edges.ARGUMENT, l -> l.passEnd(0, -1), SOME);
            Edges.refuses(Edges.ARGUMENT, l -> l.passEnd(1, 1000), SOME);
        });
    }

    private static void isVisible() {
        Edges.promise(14);
        stationLimits((l, v) -> l.isVisible(v, 0));
        Edges.limits("`time`: 0 to 99999", Edges.ARGUMENT, 0, 99999, (l, v) -> l.isVisible(0, v), SOME);
        Edges.holds("Returns whether it is visible in this minute.", () -> {
            PassLink x = Scenes.steady(0, 1, 1, 59, 30, 1);
            Check.is("minute 0", x.isVisible(0, 0), true);
            Check.is("minute 1", x.isVisible(0, 1), false);
            Check.is("minute 0 of the other, with no orbit before 0", x.isVisible(1, 0), false);
            Check.is("minute 58", x.isVisible(1, 58), false);
            Check.is("minute 59", x.isVisible(1, 59), true);
            Check.is("minute 88", x.isVisible(1, 88), true);
            Check.is("minute 89", x.isVisible(1, 89), false);
            x.setOrbit(60, 0, 0);
            Check.is("into the next orbit", x.isVisible(1, 60) && x.isVisible(1, 88), true);
            Check.is("behind it", x.isVisible(1, 89), false);
            x.setOrbit(200, 0, 0);
            Check.is("the last minute", x.isVisible(0, 99999), false);
            x.setOrbit(91, 0, 0);
            Check.is("a minute of orbit 1098", x.isVisible(0, 1098 * 91), true);
            x.setOrbit(77, 0, 0);
            Check.is("the last minute, not by orbit 1298", x.isVisible(1, 99999), false);
            x.setOrbit(80, 0, 0);
            Check.is("the last minute, by orbit 1249", x.isVisible(1, 99999), true);
        });
        noSuchStation((l, v) -> l.isVisible(0, v), (l, v) -> l.isVisible(2, v), (l, v) -> l.isVisible(4, v));
        Edges.holds("Throws `IllegalArgumentException` if time is out of range", () -> {
            Edges.refuses(Edges.ARGUMENT, l -> l.isVisible(0, -1), SOME);
            Edges.refuses(Edges.ARGUMENT, l -> l.isVisible(1, 100000), SOME);
        });
    }

    private static void passTable() {
        Edges.promise(15);
        Edges.limits("`from`: 0 to 99999", Edges.ARGUMENT, 0, 99999, (l, v) -> l.passTable(v, 0, 0), ANY);
        Edges.limits("`line`: 0 for the first line, up to 19", Edges.ARGUMENT, 0, 19,
                (l, v) -> l.passTable(0, v, 0), ANY);
        Edges.limits("`what`: 0: the station; 1: when the pass begins; 2: when it ends; 3: the orbit", Edges.ARGUMENT,
                0, 3, (l, v) -> l.passTable(0, 0, v), ANY);
        Edges.holds("`what`: 0: the station; 1: when the pass begins; 2: when it ends; 3: the orbit", () -> {
            PassLink x = turning();
            int[][] lines = {{0, 5, 13, 0}, {1, 59, 89, 0}, {0, 105, 111, 1}, {0, 205, 209, 2}, {0, 305, 307, 3},
                {0, 35705, 35707, 357}};
            for (int line = 0; line < lines.length; line++) {
                for (int what = 0; what < 4; what++) {
                    Check.is("line " + line + ", " + what, x.passTable(0, line, what), lines[line][what]);
                }
            }
        });
        Edges.holds("Tells a line of the pass table: the passes of all stations that begin at a time or later", () -> {
            PassLink x = turning();
            Check.is("at its begin", x.passTable(5, 0, 1), 5);
            Check.is("a minute later", x.passTable(6, 0, 1), 59);
            Check.is("at the next begin", x.passTable(59, 0, 0), 1);
            Check.is("a minute later", x.passTable(60, 0, 1), 105);
            Check.is("over a gap", x.passTable(306, 0, 1), 35705);
        });
        Edges.holds("`line`: 0 for the first line, up to 19", () -> {
            PassLink x = Scenes.steady(0, 1, 1);
            for (int line = 0; line < 20; line++) {
                Check.is("line " + line, x.passTable(0, line, 1), 100 * line);
                Check.is("line " + line + " behind minute 0", x.passTable(1, line, 1), 100 * line + 100);
            }
        });
        Edges.holds("ordered by the times at which they begin, at the same time by the numbers of the stations", () -> {
            // All orders of four phases, two of which may be the same.
            for (int code = 0; code < 256; code++) {
                int[] phases = {code & 3, code >> 2 & 3, code >> 4 & 3, code >> 6};
                PassLink x = Scenes.steady(phases[0], 1, 1, phases[1], 1, 1, phases[2], 1, 1, phases[3], 1, 1);
                int line = 0;
                for (int minute = 0; minute < 104; minute++) {
                    for (int station = 0; station < 4; station++) {
                        if (minute % 100 == phases[station]) {
                            Check.is("line " + line + " of " + code, x.passTable(0, line++, 0), station);
                        }
                    }
                }
            }
        });
    }

    private static void passTableAtItsEnds() {
        Edges.holds("in the orbits 0 to 999", () -> {
            PassLink x = Scenes.steady(59, 30, 1, 7, 1, 1);
            Check.is("the first orbit", x.passTable(0, 0, 3), 0);
            Check.is("the last but one line", x.passTable(99900, 0, 1), 99907);
            Check.is("the last line", x.passTable(99900, 1, 1), 99959);
            Check.is("the last orbit", x.passTable(99900, 1, 3), 999);
            Check.is("no line behind it", x.passTable(99900, 2, 3), -1);
            Check.is("from the last begin on", x.passTable(99959, 0, 2), 99989);
            Check.is("a minute later", x.passTable(99960, 0, 2), -1);
            x.setOrbit(60, 0, 0);
            Check.is("orbit 999 of a short period", x.passTable(59940, 1, 1), 59999);
            Check.is("behind it", x.passTable(60000, 0, 1), -1);
            x.setOrbit(101, 0, 0);
            Check.is("at the last time to ask for", x.passTable(99999, 0, 3), 990);
            Check.is("and the line behind it", x.passTable(99999, 1, 3), 991);
        });
        Edges.holds("Returns that number; NONE if there are not so many lines.", () -> {
            Check.is("no stations", new PassLink().passTable(0, 0, 0), -1);
            Check.is("no stations, the last line", new PassLink().passTable(0, 19, 3), -1);
            PassLink x = new PassLink();
            x.setOrbit(60, 0, 180);
            x.addStation(0, 90, 1, 0, 1, 0);
            Check.is("no passes", x.passTable(0, 0, 2), -1);
            x.setOrbit(60, 0, 0);
            Check.is("20 lines", x.passTable(980 * 60, 19, 3), 999);
            Check.is("19 lines", x.passTable(981 * 60, 19, 3), -1);
            Check.is("the last of the 19", x.passTable(981 * 60, 18, 3), 999);
        });
        Edges.holds("Throws `IllegalArgumentException` if an argument is out of range", () -> {
            int[][] wrong = {{-1, 0, 0}, {100000, 0, 0}, {0, -1, 0}, {0, 20, 0}, {0, 0, -1}, {0, 0, 4},
                {-1, -1, -1}, {100000, 20, 4}};
            for (int[] w : wrong) {
                Edges.refuses(Edges.ARGUMENT, l -> l.passTable(w[0], w[1], w[2]), ANY);
            }
        });
    }

    private static void contactIs(PassLink x, int station, int begin, int end) {
        Check.is("station", x.nextContact(0), station);
        Check.is("begin", x.nextContact(1), begin);
        Check.is("end", x.nextContact(2), end);
    }

    private static void nextContact() {
        Edges.promise(16);
        Edges.holds("Predicts the next contact that will begin, if nothing is changed", () -> {
            PassLink x = Scenes.steady(10, 5, 1, 12, 6, 1);
            contactIs(x, 0, 10, 15);
            x.advance(10);
            contactIs(x, 0, 10, 15);
            x.advance(1);
            // The present contact has begun already.
            contactIs(x, 1, 15, 18);
            x.setPolicy(1);
            contactIs(x, 1, 12, 18);
            x.advance(7);
            contactIs(x, 0, 110, 112);
            contactIs(Scenes.steady(7, 1, 1), 0, 7, 8);
            PassLink same = Scenes.steady(0, 5, 1);
            same.advance(1);
            // The next one is with the station of the present one.
            contactIs(same, 0, 100, 105);
            Check.same("nothing is changed", () -> {
                PassLink y = Scenes.busy();
                y.nextContact(0);
                y.nextContact(1);
                y.nextContact(2);
                return y;
            }, Scenes.BUSY);
        });
        Edges.limits("`what`: 0: its station; 1: when it begins; 2: when it ends (the present time plus 3000 if it does not"
                + " end before)", Edges.ARGUMENT, 0, 2, PassLink::nextContact, ANY);
        Edges.holds("Returns that number; NONE if there is no such contact.", () -> {
            contactIs(new PassLink(), -1, -1, -1);
            PassLink x = Scenes.steady(0, 5, 1);
            x.setOrbit(100, 0, 90);
            contactIs(x, -1, -1, -1);
            x.setOrbit(100, 0, 0);
            x.advance(1);
            x.setOrbit(100, 0, 90);
            Check.is("the present one is none", x.presentStation(), 0);
            contactIs(x, -1, -1, -1);
        });
        Edges.holds("Throws `IllegalArgumentException` if what is out of range", () -> {
            Edges.refuses(Edges.ARGUMENT, l -> l.nextContact(-1), ANY);
            Edges.refuses(Edges.ARGUMENT, l -> l.nextContact(3), ANY);
        });
    }

    /** Orbit 15 begins at 2970, and no orbit before it passes the station. */
    private static PassLink late(int phase, int length) {
        PassLink x = new PassLink();
        x.setOrbit(198, 1, 0);
        x.addStation(15, 0, length, phase, 1, 0);
        return x;
    }

    private static void nextContactAtItsEnds() {
        Edges.holds("a contact that begins in one of the next 3000 minutes, the present time included.", () -> {
            contactIs(Scenes.steady(0, 4, 1), 0, 0, 4);
            PassLink x = Scenes.steady(0, 4, 1);
            x.advance(100);
            contactIs(x, 0, 100, 104);
            contactIs(late(29, 1), 0, 2999, 3000);
            contactIs(late(30, 1), -1, -1, -1);
            PassLink y = late(30, 1);
            y.advance(1);
            contactIs(y, 0, 3000, 3001);
            PassLink z = late(59, 1);
            z.advance(29);
            contactIs(z, -1, -1, -1);
            z.advance(1);
            contactIs(z, 0, 3029, 3030);
        });
        Edges.holds("(the present time plus 3000 if it does not end before)", () -> {
            contactIs(late(20, 9), 0, 2990, 2999);
            contactIs(late(20, 10), 0, 2990, 3000);
            contactIs(late(20, 11), 0, 2990, 3000);
            contactIs(late(29, 30), 0, 2999, 3000);
            PassLink x = late(20, 30);
            x.advance(19);
            contactIs(x, 0, 2990, 3019);
            x.advance(1);
            contactIs(x, 0, 2990, 3020);
            x.advance(1);
            contactIs(x, 0, 2990, 3020);
        });
    }

    private static void spanLimits(Edges.Numbered fromCall, Edges.Numbered minutesCall, Check.Scene... scenes) {
        Edges.limits("`from`: the first minute, 0 to 99999", Edges.ARGUMENT, 0, 99999, fromCall, scenes);
        Edges.limits("`minutes`: the number of minutes, 1 to 1440", Edges.ARGUMENT, 1, 1440, minutesCall, scenes);
    }

    private static void coverage() {
        Edges.promise(17);
        String station = "`station`: a station; NONE: at least one of all stations";
        Edges.limits(station, Edges.INDEX, -1, -1, (l, v) -> l.coverage(v, 0, 100), Scenes.EMPTY);
        Edges.limits(station, Edges.INDEX, -1, 1, (l, v) -> l.coverage(v, 0, 100), Scenes.BUSY);
        Edges.limits(station, Edges.INDEX, -1, 3, (l, v) -> l.coverage(v, 0, 100), Scenes.FULL);
        spanLimits((l, v) -> l.coverage(0, v, 10), (l, v) -> l.coverage(0, 0, v), SOME);
        spanLimits((l, v) -> l.coverage(-1, v, 10), (l, v) -> l.coverage(-1, 0, v), ANY);
        Edges.holds("Counts minutes in which the satellite sees the ground.", () -> {
            PassLink x = Scenes.steady(0, 10, 1, 5, 10, 1);
            Check.is("of one", x.coverage(0, 0, 100), 10);
            Check.is("of the other", x.coverage(1, 0, 100), 10);
            Check.is("of any, each minute once", x.coverage(-1, 0, 100), 15);
        });
        Edges.holds(station, () -> {
            Check.is("no stations", new PassLink().coverage(-1, 0, 1440), 0);
            PassLink x = Scenes.steady(0, 1, 1, 10, 2, 1, 20, 3, 1, 30, 4, 1);
            for (int number = 0; number < 4; number++) {
                Check.is("station " + number, x.coverage(number, 0, 100), number + 1);
            }
            Check.is("all", x.coverage(-1, 0, 100), 10);
        });
        Edges.holds("Returns in how many of these minutes the station (or at least one) is visible.", () -> {
            PassLink x = Scenes.steady(0, 10, 1, 59, 30, 1);
            Check.is("the first minute", x.coverage(0, 0, 1), 1);
            Check.is("the last minute", x.coverage(0, 9, 1), 1);
            Check.is("the minute behind it", x.coverage(0, 10, 1), 0);
            Check.is("the minute ahead", x.coverage(0, 99, 1), 0);
            Check.is("up to the minute ahead", x.coverage(0, 10, 90), 0);
            Check.is("one minute more", x.coverage(0, 10, 91), 1);
            Check.is("a day", x.coverage(0, 0, 1440), 150);
            Check.is("a day of any", x.coverage(-1, 0, 1440), 150 + 14 * 30);
            Check.is("from the last minute on", x.coverage(0, 99999, 1440), 150);
            Check.is("the last minute alone", x.coverage(-1, 99999, 1), 0);
            x.setOrbit(60, 0, 0);
            Check.is("passes into the next orbit", x.coverage(1, 0, 1440), 23 * 30 + 1);
        });
        Edges.holds("Throws `IndexOutOfBoundsException` if there is no such station", () -> {
            for (int[] span : new int[][] {{0, 10}, {-1, 10}, {100000, 10}, {0, 0}, {0, 1441}, {-1, -1}}) {
                Edges.refuses(Edges.INDEX, l -> l.coverage(0, span[0], span[1]), Scenes.EMPTY);
                Edges.refuses(Edges.INDEX, l -> l.coverage(2, span[0], span[1]), Scenes.BUSY);
                Edges.refuses(Edges.INDEX, l -> l.coverage(4, span[0], span[1]), Scenes.FULL);
                Edges.refuses(Edges.INDEX, l -> l.coverage(-2, span[0], span[1]), ANY);
            }
        });
        Edges.holds("Throws `IllegalArgumentException` if another argument is out of range", () -> {
            for (int[] span : new int[][] {{-1, 10}, {100000, 10}, {0, 0}, {0, 1441}, {-1, -1}, {100000, 0}}) {
                Edges.refuses(Edges.ARGUMENT, l -> l.coverage(-1, span[0], span[1]), ANY);
                Edges.refuses(Edges.ARGUMENT, l -> l.coverage(1, span[0], span[1]), SOME);
            }
        });
    }

    private static void wrongSpans(Edges.Numbered fromCall, Edges.Numbered minutesCall) {
        spanLimits(fromCall, minutesCall, ANY);
        Edges.holds("Throws `IllegalArgumentException` if an argument is out of range", () -> {
            Edges.refuses(Edges.ARGUMENT, l -> fromCall.on(l, -1), ANY);
            Edges.refuses(Edges.ARGUMENT, l -> fromCall.on(l, 100000), ANY);
            Edges.refuses(Edges.ARGUMENT, l -> minutesCall.on(l, 0), ANY);
            Edges.refuses(Edges.ARGUMENT, l -> minutesCall.on(l, 1441), ANY);
        });
    }

    private static void longestGap() {
        Edges.promise(18);
        wrongSpans((l, v) -> l.longestGap(v, 10), (l, v) -> l.longestGap(0, v));
        Edges.holds("Finds the longest time without any station.", () -> {
            PassLink x = Scenes.steady(0, 10, 1, 15, 10, 1, 40, 20, 1);
            Check.is("5, 15 and 40", x.longestGap(0, 100), 40);
            Check.is("5 and 15", x.longestGap(0, 60), 15);
            Check.is("5 alone", x.longestGap(0, 25), 5);
        });
        Edges.holds("Returns the greatest number of minutes that follow each other, all of them among these minutes,"
                + " in which no station is visible", () -> {
            PassLink x = Scenes.steady(10, 10, 1);
            Check.is("ahead of the first pass", x.longestGap(0, 30), 10);
            Check.is("cut at the beginning", x.longestGap(3, 17), 7);
            Check.is("cut at the end", x.longestGap(15, 20), 15);
            Check.is("one minute", x.longestGap(9, 1), 1);
            Check.is("two parts do not add up", x.longestGap(5, 20), 5);
            Check.is("of a day", x.longestGap(0, 1440), 90);
            Check.is("from the last minute on", x.longestGap(99999, 1440), 90);
            Check.is("no stations", new PassLink().longestGap(0, 1440), 1440);
            Check.is("no stations, at the end", new PassLink().longestGap(99999, 1), 1);
        });
        Edges.holds("0 if there is none.", () -> {
            PassLink x = Scenes.steady(10, 10, 1, 20, 5, 1);
            Check.is("one minute", x.longestGap(10, 1), 0);
            Check.is("both passes", x.longestGap(10, 15), 0);
            Check.is("a minute more", x.longestGap(10, 16), 1);
        });
    }

    private static void bestStation() {
        Edges.promise(19);
        wrongSpans((l, v) -> l.bestStation(v, 10), (l, v) -> l.bestStation(0, v));
        Edges.holds("Finds the station to which most could be sent.", () -> {
            PassLink x = Scenes.steady(0, 30, 1, 30, 2, 20, 40, 10, 3);
            Check.is("30, 40 and 30", x.bestStation(0, 100), 1);
            Check.is("30, 20 and 0", x.bestStation(0, 31), 0);
        });
        Edges.holds("Returns the station with the greatest product of its rate and the number of these minutes in which"
                + " it is visible, of several the lowest one", () -> {
            PassLink x = Scenes.steady(0, 6, 2, 10, 3, 4, 20, 12, 1, 40, 1, 13);
            Check.is("12, 12 and 12", x.bestStation(0, 40), 0);
            Check.is("10, 12 and 12", x.bestStation(1, 39), 1);
            Check.is("0, 8 and 12", x.bestStation(11, 29), 2);
            Check.is("0, 12 and 11", x.bestStation(10, 21), 1);
            Check.is("13 at last", x.bestStation(0, 41), 3);
            Check.is("not yet", x.bestStation(0, 40), 0);
            Check.is("a day from the last minute on", x.bestStation(99999, 1440), 3);
        });
        Edges.holds("NONE if none is visible in any of them.", () -> {
            PassLink x = Scenes.steady(0, 6, 2, 10, 3, 4);
            Check.is("between the passes", x.bestStation(6, 4), -1);
            Check.is("one frame in one minute", Scenes.steady(0, 1, 1).bestStation(0, 1), 0);
            Check.is("a minute later", Scenes.steady(0, 1, 1).bestStation(1, 1), -1);
            Check.is("a minute more", x.bestStation(6, 5), 1);
            Check.is("a minute earlier", x.bestStation(5, 5), 0);
            Check.is("no stations", new PassLink().bestStation(0, 1440), -1);
        });
    }

    private static void nextPass() {
        Edges.promise(20);
        stationLimits((l, v) -> l.nextPass(v, 0));
        Edges.limits("`from`: 0 to 99999", Edges.ARGUMENT, 0, 99999, (l, v) -> l.nextPass(0, v), SOME);
        Edges.holds("Returns the time at which its first pass begins that begins at this time or later", () -> {
            PassLink x = turning();
            Check.is("from 0", x.nextPass(0, 0), 5);
            Check.is("at its begin", x.nextPass(0, 5), 5);
            Check.is("a minute later", x.nextPass(0, 6), 105);
            Check.is("of the other", x.nextPass(1, 0), 59);
            Check.is("of the other, at its begin", x.nextPass(1, 59), 59);
            Check.is("of the other, a minute later", x.nextPass(1, 60), 36059);
            PassLink y = Scenes.steady(0, 1, 1);
            Check.is("at 0", y.nextPass(0, 0), 0);
            Check.is("at the begin of an orbit", y.nextPass(0, 100), 100);
            Check.is("behind it", y.nextPass(0, 101), 200);
        });
        Edges.holds("in the orbits 0 to 999; NONE if there is none.", () -> {
            PassLink x = Scenes.steady(59, 1, 1);
            Check.is("the last pass", x.nextPass(0, 99959), 99959);
            Check.is("behind it", x.nextPass(0, 99960), -1);
            Check.is("at the last time to ask for", x.nextPass(0, 99999), -1);
            x.setOrbit(60, 0, 0);
            Check.is("orbit 999", x.nextPass(0, 59999), 59999);
            Check.is("orbit 1000", x.nextPass(0, 60000), -1);
            x.setOrbit(200, 0, 0);
            Check.is("far from the last", x.nextPass(0, 99999), 100059);
            x.setOrbit(200, 0, 90);
            Check.is("no passes", x.nextPass(0, 0), -1);
        });
        noSuchStation((l, v) -> l.nextPass(0, v), (l, v) -> l.nextPass(2, v), (l, v) -> l.nextPass(4, v));
        Edges.holds("Throws `IllegalArgumentException` if from is out of range", () -> {
            Edges.refuses(Edges.ARGUMENT, l -> l.nextPass(0, -1), SOME);
            Edges.refuses(Edges.ARGUMENT, l -> l.nextPass(1, 100000), SOME);
        });
    }

    private static void passFrames() {
        Edges.promise(21);
        stationLimits((l, v) -> l.passFrames(v, 0));
        Edges.limits("`orbit`: 0 to 999", Edges.ARGUMENT, 0, 999, (l, v) -> l.passFrames(0, v), SOME);
        Edges.holds("Returns how many frames can be sent in its pass in the orbit, if all of its minutes are a contact"
                + " with it", () -> {
            PassLink x = turning();
            Check.is("8 minutes", x.passFrames(0, 0), 16);
            Check.is("2 minutes", x.passFrames(0, 3), 4);
            Check.is("the most", x.passFrames(1, 0), 600);
            Check.is("round the circle", x.passFrames(0, 357), 4);
            PassLink y = Scenes.steady(59, 1, 1);
            Check.is("the fewest, in orbit 999", y.passFrames(0, 999), 1);
        });
        Edges.holds("0 if there is no pass.", () -> {
            PassLink x = turning();
            Check.is("orbit 4", x.passFrames(0, 4), 0);
            Check.is("orbit 356", x.passFrames(0, 356), 0);
            Check.is("orbit 999", x.passFrames(1, 999), 0);
        });
        noSuchStation((l, v) -> l.passFrames(0, v), (l, v) -> l.passFrames(2, v), (l, v) -> l.passFrames(4, v));
        Edges.holds("Throws `IllegalArgumentException` if orbit is out of range", () -> {
            Edges.refuses(Edges.ARGUMENT, l -> l.passFrames(0, -1), SOME);
            Edges.refuses(Edges.ARGUMENT, l -> l.passFrames(1, 1000), SOME);
        });
    }
}
