/** Promises 57 to 61: setup texts. */
public final class SetupTest {
    public static void main(String[] args) {
        buffer();
        wrongBuffer();
        statements();
        everythingIsReplaced();
        nothingIsLeftOver();
        bytesBehindTheCut();
        blanksAndNumbers();
        notAllowed();
        outOfRange();
        noRoom();
        errorsChangeNothing();
        latestError();
        Check.end();
    }

    private static void buffer() {
        PassLink x = new PassLink();
        Check.is("four", x.appendText(0x6f726269), 4);
        Check.is("eight", x.appendText(0x74203630), 8);
        Check.is("cut", x.truncateText(6), 6);
        Check.is("to the same", x.truncateText(6), 6);
        Check.is("ten", x.appendText(0x36302030), 10);
        Check.is("fourteen", x.appendText(0x20303b20), 14);
        Check.is("one statement", x.load(), 1);
        Check.is("highest byte first", x.setOrbit(90, 0, 0), 60);
        Check.is("empty behind it", x.appendText(0), 4);
        for (int n = 2; n <= 100; n++) {
            Check.is("up to 400", x.appendText(-1), 4 * n);
        }
        Check.is("no more", Check.thrownBy(x, l -> l.appendText(0)), "IllegalStateException");
        Check.is("397 leave no room", x.truncateText(397), 397);
        Check.is("no more", Check.thrownBy(x, l -> l.appendText(0)), "IllegalStateException");
        Check.is("unchanged", x.truncateText(397), 397);
        Check.is("396", x.truncateText(396), 396);
        Check.is("400", x.appendText(0), 400);
        Check.is("to nothing", x.truncateText(0), 0);
        Check.is("from nothing", x.truncateText(0), 0);
    }

    private static PassLink withText() {
        PassLink x = Scenes.busy();
        for (int n = 0; n < 97; n++) {
            x.appendText(0x20202020);
        }
        return x;
    }

    private static void wrongBuffer() {
        Check.refuses("append", IllegalStateException.class, SetupTest::withText, l -> l.appendText(0x61616161));
        for (int length : new int[] {-1, 12, 400, Integer.MIN_VALUE, Integer.MAX_VALUE}) {
            Check.refuses("truncate", IllegalArgumentException.class, Scenes.BUSY, l -> l.truncateText(length));
        }
    }

    private static void statements() {
        PassLink x = new PassLink();
        Check.is("all of them", Check.load(x, "orbit 60 5 7; station 17 10 11 5 4 30; ground 41; patience 42;"
                + "fresh 43 4; memory 44; policy longest; record 6 2; record 3 9;"), 9);
        Check.is("node and shift", x.passEnd(0, 2), 60 * 2 + 5 + 11);
        Check.is("rate", x.passFrames(0, 2), 44);
        Check.is("loss", x.setLoss(0, 0), 30);
        Check.is("period", x.setOrbit(90, 0, 0), 60);
        Check.is("ground", x.setGroundDelay(0), 41);
        Check.is("patience", x.setPatience(1), 42);
        Check.is("fresh", x.setFresh(0, 0), 434);
        Check.is("memory", x.setMemory(50), 44);
        Check.is("policy", x.setPolicy(0), 1);
        Check.is("records", x.recordCount(), 2);
        Check.is("size", x.frames(0, 0), 63);
        Check.is("priority", x.setPriority(1, 0), 9);
        Check.is("stay", Check.load(x, "policy longest;policy stay;"), 2);
        Check.is("stay", x.setPolicy(0), 0);
        Check.is("nothing at all", Check.load(x, ""), 0);
        Check.is("blanks alone", Check.load(x, " \n "), 0);
    }

    private static void everythingIsReplaced() {
        PassLink x = Scenes.busy();
        x.truncateText(0);
        Check.is("load", x.load(), 0);
        PassLink y = new PassLink();
        y.setSeed(1);
        x.restore(1);
        Check.is("saved states stay", x.time(), 20);
        x.load();
        y.advance(20);
        y.save(1);
        y.load();
        Check.is("time", x.time(), 0);
        Check.is("all rules", x.setGroundDelay(60) + x.setPatience(1000) + x.setFresh(30, 5) + x.setMemory(300)
                + x.setPolicy(0) + x.setOrbit(90, 24, 0), 60 + 1000 + 305 + 300 + 90);
        Check.is("counts", x.stationCount() + x.recordCount() + x.contactCount() + x.handovers(), 0);
        Check.is("present", x.presentStation(), -1);
        for (int what = 0; what < 8; what++) {
            Check.is("figure " + what, x.figure(what), 0);
        }
        x.addStation(0, 0, 5, 0, 1, 39);
        for (int what = 0; what < 5; what++) {
            Check.is("station's figure " + what, x.stationFigure(0, what), 0);
        }
        x.addRecord(1, 0);
        Check.is("not sent", x.sentIn(0, 0), -1);
        x.advance(1);
        Check.is("the state of the generator is 1", x.figure(1), 1);
        Check.is("only what was sent since", x.contactTotal(0, false), 1);
    }

    /** Trials and earlier loads leave nothing behind in what a load makes. */
    private static void nothingIsLeftOver() {
        String text = "station 0 90 30 0 1 0; station 0 90 30 0 1 0; record 24 1; record 24 1; record 24 1;";
        for (Check.Scene scene : new Check.Scene[] {Scenes.BUSY, Scenes.FULL}) {
            Check.same("state", () -> {
                PassLink x = scene.make();
                x.bestPolicy(300);
                x.truncateText(0);
                return loadedAndSaved(x, text);
            }, () -> loadedAndSaved(new PassLink(), text));
        }
        PassLink z = Scenes.steady(0, 30, 1);
        z.addRecord(24, 0);
        z.deliveryForecast(0);
        Check.load(z, "record 24 0;");
        Check.is("nothing under way by a forecast", z.frames(0, 1), 0);
    }

    private static PassLink loadedAndSaved(PassLink x, String text) {
        Check.load(x, text);
        x.save(0);
        x.save(1);
        return x;
    }

    private static void bytesBehindTheCut() {
        PassLink x = new PassLink();
        Check.append(x, "ground 99999;", 0);
        x.truncateText(9);
        Check.is("no semicolon", x.load(), -1);
        Check.is("at the cut", x.errorPosition(), 9);
        Check.append(x, "ground 99999;", 0);
        x.truncateText(9);
        Check.append(x, ";", 9);
        Check.is("two digits", x.load(), 1);
        Check.is("of the delay", x.setGroundDelay(0), 99);
        StringBuilder text = new StringBuilder();
        for (int n = 0; n < 400; n++) {
            text.append(n < 6 ? "ground".charAt(n) : '0');
        }
        Check.is("a number up to the last byte", Check.load(x, text.toString()), -1);
        Check.is("and the end", x.errorPosition(), 400);
    }

    private static void blanksAndNumbers() {
        errorIs("ground 0;", 0, -1);
        errorIs("patience 1;", 0, -1);
        errorIs("record1 2;", 0, -1);
        errorIs("\n record\n1\n\n2 ; \n", 0, -1);
        errorIs("record 0000000000000000000000000001 00;", 0, -1);
        errorIs("orbit60 0 0;station0 0 1 0 1 0;fresh0 0;", 0, -1);
        errorIs("memory 24;memory 960;record 24 9;", 0, -1);
        errorIs("policy\nlongest;", 0, -1);
    }

    private static void errorIs(String text, int code, int position) {
        PassLink x = new PassLink();
        Check.is("load of '" + text + "'", Check.load(x, text) == -1, code != 0);
        Check.is("code of '" + text + "'", x.errorCode(), code);
        Check.is("position of '" + text + "'", x.errorPosition(), position);
    }

    private static void notAllowed() {
        errorIs(";", 1, 0);
        errorIs("ground 1;;", 1, 9);
        errorIs("ground 1", 1, 8);
        errorIs("ground 1  \n", 1, 11);
        errorIs("ground", 1, 6);
        errorIs("ground ;", 1, 7);
        errorIs("ground 1 2;", 1, 9);
        errorIs("ground one;", 1, 7);
        errorIs("grounds 1;", 1, 0);
        errorIs("groun 1;", 1, 0);
        errorIs("g 1;", 1, 0);
        errorIs("xround 1;", 1, 0);
        errorIs("groundz 1;", 1, 0);
        errorIs("agroundz 1;", 1, 0);
        errorIs("policy 0;", 1, 7);
        errorIs("policy stays;", 1, 7);
        errorIs("policy record;", 1, 7);
        errorIs("policy", 1, 6);
        errorIs("stay;", 1, 0);
        errorIs("12;", 1, 0);
        errorIs("ground 1; # 2;", 1, 10);
        errorIs("Ground 1;", 1, 0);
        errorIs("ground 1\t;", 1, 8);
        errorIs("ground -1;", 1, 7);
        errorIs("ground 1\r\n;", 1, 8);
        errorIs("ground 1;" + (char) 233, 1, 9);
        errorIs("ground 1;" + (char) 0, 1, 9);
        errorIs("ground 1/;", 1, 8);
        errorIs("ground 1:", 1, 8);
        errorIs("ground 1`", 1, 8);
        errorIs("ground 1{", 1, 8);
        errorIs("ground 1@", 1, 8);
        errorIs("ground 1[", 1, 8);
        errorIs("orbit 60 0;", 1, 10);
        errorIs("station 0 0 1 0 1;", 1, 17);
        errorIs("fresh 1;", 1, 7);
        errorIs("record 1;", 1, 8);
        errorIs("memory;", 1, 6);
        errorIs("patience;", 1, 8);
    }

    private static void outOfRange() {
        errorIs("orbit 59 0 0;", 2, 6);
        errorIs("orbit 201 0 0;", 2, 6);
        errorIs("orbit 200 360 0;", 2, 10);
        errorIs("orbit 60 359 360;", 2, 13);
        errorIs("station 360 0 1 0 1 0;", 2, 8);
        errorIs("station 0 91 1 0 1 0;", 2, 10);
        errorIs("station 0 0 0 0 1 0;", 2, 12);
        errorIs("station 0 0 31 0 1 0;", 2, 12);
        errorIs("station 0 0 1 60 1 0;", 2, 14);
        errorIs("station 0 0 1 0 0 0;", 2, 16);
        errorIs("station 0 0 1 0 21 0;", 2, 16);
        errorIs("station 0 0 1 0 1 100;", 2, 18);
        errorIs("station 359 90 30 59 20 99;", 0, -1);
        errorIs("ground 1000;", 2, 7);
        errorIs("ground 999;", 0, -1);
        errorIs("patience 0;", 2, 9);
        errorIs("patience 10000;", 2, 9);
        errorIs("patience 9999;", 0, -1);
        errorIs("fresh 1000 0;", 2, 6);
        errorIs("fresh 0 10;", 2, 8);
        errorIs("fresh 999 9;", 0, -1);
        errorIs("memory 23;", 2, 7);
        errorIs("memory 961;", 2, 7);
        errorIs("record 0 0;", 2, 7);
        errorIs("record 25 0;", 2, 7);
        errorIs("record 1 10;", 2, 9);
        errorIs("ground 4294967296;", 2, 7);
        errorIs("ground 18446744073709551617;", 2, 7);
        errorIs("ground 99999999999999999999999999999999999999999999999999999;", 2, 7);
        errorIs("ground 100000;", 2, 7);
    }

    private static void noRoom() {
        String station = "station 0 0 1 0 1 0;";
        errorIs(station + station + station + station, 0, -1);
        errorIs(station + station + station + station + "station", 3, 80);
        errorIs(station + station + station + station + " station 999", 3, 81);
        errorIs("memory 24;record 20 0;record 4 0;", 0, -1);
        errorIs("memory 24;record 20 0;record 5 0;", 3, 29);
        errorIs("memory 24;record 20 0;record 5", 3, 29);
        errorIs("memory 24;record 20 0;record 25 0;", 2, 29);
        errorIs("record 20 0;record 5 0;memory 25;", 0, -1);
        errorIs("record 20 0;record 5 0;memory 24;", 3, 30);
        errorIs("record 20 0;record 5 0;memory 23;", 2, 30);
        errorIs("record 20 0;record 5 0;memory 24", 3, 30);
        manyRecords();
    }

    /** The shortest record takes ten bytes, so the text has room for 40 of them and not for a 41st word. */
    private static void manyRecords() {
        StringBuilder records = new StringBuilder();
        for (int n = 0; n < 40; n++) {
            records.append("record1 0;");
        }
        Check.is("the whole buffer", records.length(), 400);
        PassLink x = new PassLink();
        Check.is("40", Check.load(x, records.toString()), 40);
        Check.is("records", x.recordCount(), 40);
        Check.is("error", x.errorCode(), 0);
    }

    private static void errorsChangeNothing() {
        PassLink x = Scenes.busy();
        x.truncateText(0);
        Check.append(x, "orbit 60 0 0; record 1 1; record 1;", 0);
        Check.is("load", x.load(), -1);
        Check.is("the text is empty", Check.thrownBy(x, l -> l.truncateText(1)), "IllegalArgumentException");
        for (Check.Scene scene : new Check.Scene[] {Scenes.BUSY, Scenes.FULL, Scenes.EMPTY}) {
            Check.same("state", () -> failed(scene, "orbit 61 1 1; station 0 0 1 0 1 0; record 5 1; policy longest; pat;"),
                    () -> failed(scene, ""));
        }
        PassLink z = Scenes.busy();
        z.truncateText(0);
        int time = z.time();
        Check.load(z, "orbit 61 0 0; ;");
        Check.is("time", z.time(), time);
        Check.is("period", z.setOrbit(60, 5, 0), 60);
        Check.is("stations", z.stationCount(), 2);
        Check.is("records", z.recordCount(), 3);
    }

    /** Loads a wrong text, and then another, so that the latest error is the same for all. */
    private static PassLink failed(Check.Scene scene, String text) {
        PassLink x = scene.make();
        x.truncateText(0);
        if (!text.isEmpty()) {
            Check.is("load", Check.load(x, text), -1);
        }
        Check.load(x, "x");
        return x;
    }

    private static void latestError() {
        PassLink x = new PassLink();
        Check.load(x, "ground 1000;");
        Check.is("code", x.errorCode(), 2);
        Check.is("position", x.errorPosition(), 7);
        Check.append(x, "ground 1;", 0);
        x.save(0);
        Check.is("still the latest", x.errorCode(), 2);
        x.restore(0);
        Check.is("no part of the state", x.errorPosition(), 7);
        x.load();
        Check.is("code", x.errorCode(), 0);
        Check.is("position", x.errorPosition(), -1);
    }
}
