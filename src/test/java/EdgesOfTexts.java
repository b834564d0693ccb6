/** Sentences of the promises 57 to 63: setup texts and saved states. */
final class EdgesOfTexts {
    private static final Check.Scene[] ANY = {Scenes.EMPTY, Scenes.BUSY, Scenes.FULL, Scenes.AT_THE_END};
    private static final Check.Scene[] FILLED = {Scenes.FULL, Scenes.AT_THE_END};

    private EdgesOfTexts() {
    }

    static void hold() {
        appendText();
        truncateText();
        load();
        loadOfErrors();
        errorCode();
        errorPosition();
        save();
        restore();
    }

    private static PassLink withText(int length) {
        PassLink x = new PassLink();
        Check.append(x, " ".repeat(length), 0);
        return x;
    }

    private static void appendText() {
        Edges.promise(57);
        Edges.holds("Appends four bytes to the text buffer, the highest byte of the parameter first.", () -> {
            PassLink x = new PassLink();
            int[] words = {'p' << 24 | 'a' << 16 | 't' << 8 | 'i', 'e' << 24 | 'n' << 16 | 'c' << 8 | 'e',
                ' ' << 24 | '1' << 16 | '2' << 8 | '3', '4' << 24 | ';' << 16 | ' ' << 8 | '\n'};
            for (int word : words) {
                x.appendText(word);
            }
            Check.is("statements", x.load(), 1);
            Check.is("patience", x.setPatience(1), 1234);
        });
        Edges.holds("`fourBytes`: the bytes", () -> {
            // Each byte of each place, alone among spaces: only spaces and line feeds may stand so.
            for (int place = 0; place < 4; place++) {
                for (int sign = 0; sign < 256; sign++) {
                    int down = 8 * (3 - place);
                    PassLink x = new PassLink();
                    x.appendText(0x20202020 & ~(255 << down) | sign << down);
                    boolean blank = sign == ' ' || sign == '\n';
                    Check.is("byte " + sign + " at " + place, x.load(), blank ? 0 : -1);
                    Check.is("its place", x.errorPosition(), blank ? -1 : place);
                }
            }
        });
        Edges.holds("Returns the length of the text in bytes.", () -> {
            PassLink x = new PassLink();
            for (int length = 4; length <= 400; length += 4) {
                Check.is("length", x.appendText(0), length);
            }
            Check.is("behind a cut", withText(5).appendText(0), 9);
            Check.is("from 396", withText(396).appendText(0), 400);
        });
        Edges.holds("Throws `IllegalStateException` if the text would be longer than 400 bytes", () -> {
            Edges.refuses(Edges.STATE, l -> l.appendText(0), FILLED);
            Edges.refuses(Edges.STATE, l -> l.appendText(-1), FILLED);
            Edges.refuses(Edges.STATE, l -> l.appendText(0x3b3b3b3b), FILLED);
            for (int length = 397; length <= 400; length++) {
                int full = length;
                Edges.refuses(Edges.STATE, l -> l.appendText(0x3b3b3b3b), () -> withText(full));
            }
            Check.is("396 leave room", Check.thrownBy(withText(396), l -> l.appendText(0)), "nothing");
        });
    }

    private static void truncateText() {
        Edges.promise(58);
        String length = "`length`: the new length, 0 to the present length";
        Edges.limits(length, Edges.ARGUMENT, 0, 0, PassLink::truncateText, Scenes.EMPTY);
        Edges.limits(length, Edges.ARGUMENT, 0, 11, PassLink::truncateText, Scenes.BUSY);
        Edges.limits(length, Edges.ARGUMENT, 0, 400, PassLink::truncateText, FILLED);
        Edges.limits(length, Edges.ARGUMENT, 0, 397, PassLink::truncateText, () -> withText(397));
        Edges.holds("Cuts the text to its first bytes.", () -> {
            PassLink x = new PassLink();
            Check.append(x, "ground 5;ground 77;", 0);
            x.truncateText(9);
            Check.is("one statement", x.load(), 1);
            Check.is("the first one", x.setGroundDelay(0), 5);
            Check.append(x, "ground 5;ground 77;", 0);
            x.truncateText(19);
            Check.is("nothing is cut", x.load(), 2);
            Check.append(x, "ground 5;", 0);
            x.truncateText(0);
            Check.is("all is cut", x.load(), 0);
            Check.append(x, "ground 5;", 0);
            x.truncateText(8);
            Check.append(x, "6;", 8);
            Check.is("what is appended stands there", x.load(), 1);
            Check.is("56", x.setGroundDelay(0), 56);
        });
        Edges.holds("Returns the new length.", () -> {
            PassLink x = withText(400);
            for (int n = 400; n >= 0; n--) {
                Check.is("length", x.truncateText(n), n);
            }
        });
        Edges.holds("Throws `IllegalArgumentException` if length is out of range", () -> {
            Edges.refuses(Edges.ARGUMENT, l -> l.truncateText(-1), ANY);
            Edges.refuses(Edges.ARGUMENT, l -> l.truncateText(401), ANY);
            Edges.refuses(Edges.ARGUMENT, l -> l.truncateText(1), Scenes.EMPTY);
            Edges.refuses(Edges.ARGUMENT, l -> l.truncateText(12), Scenes.BUSY);
            Edges.refuses(Edges.ARGUMENT, l -> l.truncateText(400), () -> withText(399));
        });
    }

    private static void load() {
        Edges.promise(59);
        Edges.holds("Reads the text as a setup, which replaces everything except saved states.", () -> {
            for (Check.Scene scene : ANY) {
                // What a new object loads has no saved states, so the same ones are put into both.
                Check.same("an empty setup", () -> savedTwice(emptied(scene)), () -> savedTwice(new PassLink()));
                Check.same("a setup", () -> {
                    PassLink x = emptied(scene);
                    Check.load(x, "station 9 80 7 5 4 3;record 24 1;record 1 2;policy longest;");
                    return savedTwice(x);
                }, () -> {
                    PassLink y = new PassLink();
                    y.addStation(9, 80, 7, 5, 4, 3);
                    y.addRecord(24, 1);
                    y.addRecord(1, 2);
                    y.setPolicy(1);
                    return savedTwice(y);
                });
            }
        });
        Edges.holds("replaces everything", () -> {
            // The contact that is present is the first one, or the first one in the place of a forgotten one.
            for (int contacts : new int[] {1, 60, 61}) {
                PassLink x = Scenes.steady(0, 10, 1);
                for (int n = 1; n < contacts; n++) {
                    x.advance(100);
                }
                x.advance(1);
                Check.is("present", x.presentStation(), 0);
                x.load();
                Check.is("none is", x.presentStation(), -1);
                Check.is("nor was", x.contactCount(), 0);
            }
            PassLink y = Scenes.steady(0, 10, 1, 10, 5, 1);
            y.bestPolicy(100);
            y.advance(50);
            Check.is("a handover", y.handovers(), 1);
            y.load();
            Check.is("no handover of it, nor of the trial", y.handovers(), 0);
            // The orbit of a trial is not left over either: each of its three numbers is the first one again.
            PassLink z = new PassLink();
            z.setOrbit(200, 7, 180);
            z.bestPolicy(1);
            z.load();
            z.addStation(0, 0, 1, 0, 1, 0);
            Check.is("the node", z.passBegin(0, 0), 0);
            Check.is("period and shift", z.nextPass(0, 1), 15 * 90);
        });
        Edges.holds("except saved states", () -> {
            for (Check.Scene scene : new Check.Scene[] {Scenes.BUSY, Scenes.FULL}) {
                Check.is("slots", Look.SLOTS.at(() -> emptied(scene)), Look.SLOTS.at(scene));
            }
        });
        Edges.holds("Returns the number of statements", () -> {
            Check.is("an empty text", new PassLink().load(), 0);
            Check.is("blanks", withText(400).load(), 0);
            PassLink x = new PassLink();
            Check.is("one", Check.load(x, "ground 5;"), 1);
            Check.is("as many as there is room for", Check.load(x, "ground5;".repeat(50)), 50);
            Check.is("40 records", Check.load(x, "record1 0;".repeat(40)), 40);
            Check.is("they are there", x.recordCount(), 40);
        });
    }

    /** A scene whose text is empty and was loaded, behind trials, of which nothing may be left. */
    private static PassLink emptied(Check.Scene scene) {
        PassLink x = scene.make();
        x.bestPolicy(400);
        x.truncateText(0);
        Check.is("statements", x.load(), 0);
        return x;
    }

    private static PassLink savedTwice(PassLink x) {
        x.save(0);
        x.save(1);
        return x;
    }

    private static void loadOfErrors() {
        String[] wrong = {"x", "ground 5;ground 1000;", "memory 24;record 20 1;record 5 1;",
            "orbit 61 1 1;policy longest;fresh 1 1;patience 7;ground 7;station 1 1 1 1 1 1;record 1 1;;"};
        Edges.holds("The text buffer is empty afterwards, also if there is an error.", () -> {
            PassLink x = new PassLink();
            Check.load(x, "ground 5;");
            Check.is("cut to 1", Check.thrownBy(x, l -> l.truncateText(1)), "IllegalArgumentException");
            Check.is("its length", x.appendText(0x20202020), 4);
            x.load();
            for (String text : wrong) {
                Check.load(x, text);
                Check.is("cut to 1 behind " + text, Check.thrownBy(x, l -> l.truncateText(1)), "IllegalArgumentException");
                Check.is("its length", x.appendText(0x20202020), 4);
                Check.is("nothing of it is read again", x.load(), 0);
            }
        });
        Edges.holds("NONE if the text has an error (then everything else stays).", () -> {
            for (Check.Scene scene : ANY) {
                for (String text : wrong) {
                    Check.same("behind " + text, () -> {
                        PassLink x = scene.make();
                        x.truncateText(0);
                        Check.is("load", Check.load(x, text), -1);
                        return withTheSameError(x);
                    }, () -> {
                        PassLink y = scene.make();
                        y.truncateText(0);
                        return withTheSameError(y);
                    });
                }
            }
        });
    }

    private static PassLink withTheSameError(PassLink x) {
        Check.is("load", Check.load(x, "?"), -1);
        return x;
    }

    private static void errorCode() {
        Edges.promise(60);
        Edges.holds("Returns the error code of the latest load()", () -> {
            PassLink x = new PassLink();
            Check.load(x, ";");
            Check.is("not allowed", x.errorCode(), 1);
            Check.load(x, "ground 1000;");
            Check.is("out of range", x.errorCode(), 2);
            Check.load(x, "memory 24;record 20 1;record 5 1;");
            Check.is("no room", x.errorCode(), 3);
            x.appendText(0x3b3b3b3b);
            x.advance(1);
            Check.thrownBy(x, l -> l.advance(0));
            Check.is("until the next one", x.errorCode(), 3);
            x.load();
            Check.is("the next one", x.errorCode(), 1);
        });
        Edges.holds("0 if its text had no error, or if there was no such call.", () -> {
            PassLink x = new PassLink();
            Check.is("no such call", x.errorCode(), 0);
            x.load();
            Check.is("an empty text", x.errorCode(), 0);
            Check.load(x, ";");
            Check.load(x, "ground 5;");
            Check.is("a right text behind a wrong one", x.errorCode(), 0);
        });
    }

    private static void errorPosition() {
        Edges.promise(61);
        Edges.holds("Returns the error position of the latest load()", () -> {
            PassLink x = new PassLink();
            Check.load(x, "?");
            Check.is("the first byte", x.errorPosition(), 0);
            Check.load(x, " ".repeat(399) + "?");
            Check.is("the last byte", x.errorPosition(), 399);
            Check.load(x, "ground" + " ".repeat(394));
            Check.is("the end of a full text", x.errorPosition(), 400);
            x.appendText(0x3b3b3b3b);
            Check.is("until the next one", x.errorPosition(), 400);
            x.load();
            Check.is("the next one", x.errorPosition(), 0);
        });
        Edges.holds("NONE if its text had no error, or if there was no such call.", () -> {
            PassLink x = new PassLink();
            Check.is("no such call", x.errorPosition(), -1);
            x.load();
            Check.is("an empty text", x.errorPosition(), -1);
            Check.load(x, "ground;");
            Check.load(x, "ground 5;");
            Check.is("a right text behind a wrong one", x.errorPosition(), -1);
        });
    }

    private static void save() {
        Edges.promise(62);
        String slot = "`slot`: 0 or 1; a state that is already saved there is replaced";
        Edges.limits(slot, Edges.ARGUMENT, 0, 1, PassLink::save, ANY);
        Edges.holds(slot, () -> {
            PassLink x = new PassLink();
            for (int time = 1; time <= 4; time++) {
                x.advance(1);
                x.save(time % 2);
            }
            x.restore(0);
            Check.is("the latest of slot 0", x.time(), 4);
            x.restore(1);
            Check.is("the latest of slot 1", x.time(), 3);
            // What was there does not shine through: an empty state over a full one.
            Check.same("replaced", () -> {
                PassLink y = Scenes.full();
                y.truncateText(0);
                y.load();
                y.save(0);
                y.save(1);
                y.restore(0);
                return y;
            }, () -> savedTwice(new PassLink()));
        });
        Edges.holds("Saves everything except the text buffer, the latest error and the saved states.", () -> {
            for (Check.Scene scene : ANY) {
                Check.same("behind it", () -> {
                    PassLink x = savedTwice(scene.make());
                    disturb(x);
                    x.restore(0);
                    return x;
                }, () -> savedTwice(scene.make()));
            }
        });
        Edges.holds("Saves everything", () -> {
            // The time at which a record was added is seen in its urgency and in its delay.
            PassLink x = Scenes.steady(50, 1, 1);
            x.advance(10);
            x.addRecord(1, 0);
            x.save(0);
            x.load();
            x.advance(3);
            Check.is("another with its number", x.addRecord(1, 0), 0);
            x.restore(0);
            x.advance(30);
            Check.is("still fresh", x.urgency(0), 5);
            x.advance(1);
            Check.is("no longer", x.urgency(0), 0);
            x.advance(10);
            Check.is("its delay", x.medianDelay(), 40);
        });
        Edges.holds("except the text buffer, the latest error and the saved states", () -> {
            PassLink x = new PassLink();
            Check.load(x, "ground;");
            Check.append(x, "patience 7;", 0);
            x.save(1);
            x.advance(1);
            x.save(0);
            x.truncateText(0);
            Check.load(x, "patience 0;");
            Check.append(x, "ground 8;", 0);
            x.restore(0);
            Check.is("the latest error", x.errorCode(), 2);
            Check.is("its position", x.errorPosition(), 9);
            x.save(0);
            x.restore(1);
            Check.is("the first state", x.time(), 0);
            x.restore(0);
            Check.is("the saved states are no part of it", x.time(), 1);
            Check.is("the text", x.load(), 1);
            Check.is("its statement", x.setGroundDelay(0), 8);
        });
        Edges.holds("Throws `IllegalArgumentException` if slot is out of range", () -> {
            Edges.refuses(Edges.ARGUMENT, l -> l.save(-1), ANY);
            Edges.refuses(Edges.ARGUMENT, l -> l.save(2), ANY);
        });
    }

    /** Changes everything that a saved state holds. */
    private static void disturb(PassLink x) {
        x.setOrbit(60, 0, 0);
        for (int station = 0; station < x.stationCount(); station++) {
            x.setLoss(station, 33);
        }
        if (x.stationCount() < 4) {
            x.addStation(0, 90, 30, 1, 20, 10);
        }
        x.setMemory(960);
        if (x.recordCount() < 40) {
            x.addRecord(9, 9);
        }
        x.setPriority(0, 7);
        x.setPriority(x.recordCount() - 1, 8);
        x.setGroundDelay(1);
        x.setPatience(2);
        x.setFresh(3, 4);
        x.setPolicy(1);
        if (x.time() <= 20000 - 1440) {
            x.advance(1440);
        }
        x.setSeed(99);
    }

    private static void restore() {
        Edges.promise(63);
        Edges.holds("`slot`: 0 or 1", () -> {
            for (int slot = 0; slot <= 1; slot++) {
                int only = slot;
                Check.Scene one = () -> {
                    PassLink x = new PassLink();
                    x.advance(7);
                    x.save(only);
                    x.advance(1);
                    return x;
                };
                PassLink x = one.make();
                x.restore(only);
                Check.is("slot " + only, x.time(), 7);
                Edges.refuses(Edges.STATE, l -> l.restore(1 - only), one);
            }
        });
        Edges.limits("`slot`: 0 or 1", Edges.ARGUMENT, 0, 1, PassLink::restore, FILLED);
        Edges.holds("Brings back a saved state, which stays saved.", () -> {
            Check.Scene[] scenes = {Scenes.BUSY, Scenes.FULL};
            for (Check.Scene scene : scenes) {
                Check.same("again and again", () -> {
                    PassLink x = savedTwice(scene.make());
                    for (int n = 0; n < 3; n++) {
                        disturb(x);
                        x.restore(n % 2);
                    }
                    return x;
                }, () -> savedTwice(scene.make()));
            }
            PassLink before = Scenes.steady(0, 10, 1);
            before.save(0);
            before.advance(1);
            before.restore(0);
            Check.is("no contact is present", before.presentStation(), -1);
            Check.is("the next one is the first", before.nextContact(1), 0);
            // A saved state of few contacts and records comes back from many.
            Check.same("from a full one", () -> {
                PassLink x = Scenes.full();
                x.restore(0);
                return savedTwice(x);
            }, () -> {
                PassLink y = Scenes.full();
                y.restore(1);
                y.restore(0);
                return savedTwice(y);
            });
            PassLink x = Scenes.full();
            x.restore(0);
            Check.is("its time", x.time(), 12);
            Check.is("its contacts", x.contactCount(), 2);
            Check.is("its present station", x.presentStation(), 1);
        });
        Edges.holds("Throws `IllegalArgumentException` if slot is out of range", () -> {
            // Where nothing is saved, this comes first.
            Edges.refuses(Edges.ARGUMENT, l -> l.restore(-1), ANY);
            Edges.refuses(Edges.ARGUMENT, l -> l.restore(2), ANY);
        });
        Edges.holds("Throws `IllegalStateException` if nothing is saved there", () -> {
            Edges.refuses(Edges.STATE, l -> l.restore(0), Scenes.EMPTY, Scenes.BUSY);
            Edges.refuses(Edges.STATE, l -> l.restore(1), Scenes.EMPTY);
            Check.is("saved there", Check.thrownBy(Scenes.busy(), l -> l.restore(1)), "nothing");
        });
    }
}
