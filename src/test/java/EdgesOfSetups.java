import java.util.ArrayList;
import java.util.List;

/** Sentences of the terms: setup texts and their errors. */
final class EdgesOfSetups {
    private interface Told {
        boolean by(PassLink link, int value);
    }

    /** A number of a statement, at the sign #, with its ends and a look at what it has set. */
    private record Place(String text, int low, int high, Told told) {
        /** The sign @ stands for the same number, where a later statement needs it. */
        String with(String number) {
            return text.replace("#", number).replace("@", number);
        }

        int position() {
            return text.indexOf('#');
        }
    }

    private static final Place[] PLACES = {
        new Place("orbit # 1 2;", 60, 200, (l, v) -> l.setOrbit(90, 0, 0) == v),
        new Place("orbit 60 # 0;station @ 0 1 0 1 0;", 0, 359, (l, v) -> l.passBegin(0, 1) == 60),
        new Place("orbit 60 1 #;station @ 0 1 0 1 0;", 0, 359, (l, v) -> l.passBegin(0, 0) == 0),
        new Place("orbit 60 1 0;station # 0 1 0 1 0;", 0, 359, (l, v) -> l.nextPass(0, 0) == 60 * v),
        new Place("orbit 60 1 0;station 100 # 1 0 1 0;", 0, 90, (l, v) -> l.nextPass(0, 0) == 60 * (100 - v)),
        new Place("station 0 0 # 0 1 0;", 1, 30, (l, v) -> l.passEnd(0, 0) == v),
        new Place("station 0 0 1 # 1 0;", 0, 59, (l, v) -> l.passBegin(0, 0) == v),
        new Place("station 0 0 1 0 # 0;", 1, 20, (l, v) -> l.passFrames(0, 0) == v),
        new Place("station 0 0 1 0 1 #;", 0, 99, (l, v) -> l.setLoss(0, 0) == v),
        new Place("ground #;", 0, 999, (l, v) -> l.setGroundDelay(0) == v),
        new Place("patience #;", 1, 9999, (l, v) -> l.setPatience(1) == v),
        new Place("fresh # 3;", 0, 999, (l, v) -> l.setFresh(0, 0) == 10 * v + 3),
        new Place("fresh 7 #;", 0, 9, (l, v) -> l.setFresh(0, 0) == 70 + v),
        new Place("memory #;", 24, 960, (l, v) -> l.setMemory(300) == v),
        new Place("record # 0;", 1, 24, (l, v) -> l.memoryInUse() == v),
        new Place("record 1 #;", 0, 9, (l, v) -> l.setPriority(0, 0) == v),
    };

    /** Every statement, with a space behind each of its tokens; its numbers are right in each of its places. */
    private static final String[] STATEMENTS = {"orbit 60 60 60 ; ", "station 1 1 1 1 1 1 ; ", "ground 1 ; ",
        "patience 1 ; ", "fresh 1 1 ; ", "memory 24 ; ", "policy stay ; ", "policy longest ; ", "record 1 1 ; "};

    private static final String STATION = "station 0 0 1 0 1 0;";

    private EdgesOfSetups() {
    }

    static void hold() {
        Edges.terms();
        texts();
        words();
        numbers();
        blanks();
        digits();
        grammar();
        ranges();
        order();
        firstError();
        errorPositions();
        notAllowed();
        outOfRange();
        noRoom();
    }

    private static void errorIs(String text, int code, int position) {
        PassLink x = new PassLink();
        Check.is("load of '" + text + "'", Check.load(x, text) == -1, code != 0);
        Check.is("code of '" + text + "'", x.errorCode(), code);
        Check.is("position of '" + text + "'", x.errorPosition(), position);
    }

    private static void right(String text) {
        errorIs(text, 0, -1);
    }

    private static void texts() {
        Edges.holds("A setup is an ASCII text that is collected in a text buffer of at most 400 bytes.", () -> {
            String text = "ground5;".repeat(49) + "ground7;";
            Check.is("its length", text.length(), 400);
            PassLink x = new PassLink();
            Check.is("all of it is read", Check.load(x, text), 50);
            Check.is("to the last statement", x.setGroundDelay(0), 7);
            errorIs(text.substring(0, 399), 1, 399);
            errorIs(text.substring(0, 399) + "?", 1, 399);
            right("");
        });
        Edges.holds("ASCII", () -> {
            for (int sign = 127; sign < 256; sign++) {
                errorIs("ground 5" + (char) sign + ";", 1, 8);
                errorIs((char) sign + "ground 5;", 1, 0);
            }
        });
    }

    /** Each byte right behind a word: a letter makes it another word, a digit begins the number. */
    private static void words() {
        Edges.holds("Its tokens are words (maximal runs of the letters a to z)", () -> {
            for (int sign = 0; sign < 256; sign++) {
                char c = (char) sign;
                if (c >= 'a' && c <= 'z') {
                    errorIs("ground" + c + "5;", 1, 0);
                    errorIs(c + "ground5;", 1, 0);
                } else if (c >= '0' && c <= '9' || c == ' ' || c == '\n') {
                    right("ground" + c + "5;");
                } else {
                    errorIs("ground" + c + "5;", 1, 6);
                    errorIs(c + "ground5;", 1, 0);
                }
            }
            for (String statement : STATEMENTS) {
                for (int at = 0; statement.charAt(at) != ' '; at++) {
                    for (char c : new char[] {'a', 'x', 'z'}) {
                        if (statement.charAt(at) != c) {
                            errorIs(statement.substring(0, at) + c + statement.substring(at + 1), 1, 0);
                        }
                    }
                }
            }
            errorIs("groundground5;", 1, 0);
            errorIs("groun d5;", 1, 0);
            errorIs("groun5;", 1, 0);
            errorIs("policystay;", 1, 0);
            errorIs("GROUND5;", 1, 0);
            errorIs("grounD5;", 1, 0);
        });
    }

    private static void numbers() {
        Edges.holds("numbers (maximal runs of the digits 0 to 9)", () -> {
            for (int sign = 0; sign < 256; sign++) {
                char c = (char) sign;
                if (c >= '0' && c <= '9') {
                    PassLink x = new PassLink();
                    Check.is("another digit", Check.load(x, "ground 5" + c + ";"), 1);
                    Check.is("of the number", x.setGroundDelay(0), 50 + c - '0');
                } else if (c == ' ' || c == '\n') {
                    right("ground 5" + c + ";");
                } else {
                    // A second semicolon is wrong, every other byte is wrong itself.
                    errorIs("ground 5" + c + ";", 1, c == ';' ? 9 : 8);
                }
            }
            errorIs("ground 5 5;", 1, 9);
            errorIs("fresh 55;", 1, 8);
            right("fresh 5 5;");
        });
        Edges.holds("and the symbol ;.", () -> {
            right("ground5;ground5;");
            errorIs("ground5:ground5;", 1, 7);
            errorIs("ground5,ground5;", 1, 7);
            errorIs("ground5 ground5;", 1, 8);
        });
    }

    private static void blanks() {
        Edges.holds("Spaces (byte 32) and line feeds (byte 10) may stand before, between and behind tokens.", () -> {
            for (String blank : new String[] {" ", "\n", "  ", "\n\n", " \n", "\n ", " \n \n   "}) {
                for (String statement : STATEMENTS) {
                    right(blank + statement.replace(" ", blank));
                }
                right(blank);
                right(blank.repeat(400 / blank.length()));
            }
            right(" ".repeat(391) + "ground 5;");
            right("ground 5;" + "\n".repeat(391));
            right("ground" + " ".repeat(391) + "50;");
        });
        Edges.holds("Spaces (byte 32) and line feeds (byte 10)", () -> {
            for (int sign = 0; sign < 48; sign++) {
                if (sign == 32 || sign == 10) {
                    right((char) sign + "ground 5;");
                    right("ground 5;" + (char) sign);
                } else {
                    errorIs((char) sign + "ground 5;", 1, 0);
                    errorIs("ground 5;" + (char) sign, 1, 9);
                    errorIs("ground" + (char) sign + "5;", 1, 6);
                }
            }
        });
    }

    private static void digits() {
        Edges.holds("Numbers may have any number of digits.", () -> {
            for (int zeros : new int[] {1, 5, 6, 9, 10, 18, 19, 20, 100, 390}) {
                PassLink x = new PassLink();
                Check.is(zeros + " zeros", Check.load(x, "ground" + "0".repeat(zeros) + "999;"), 1);
                Check.is("behind them", x.setGroundDelay(0), 999);
                Check.is("zeros alone", Check.load(x, "ground" + "0".repeat(zeros) + ";"), 1);
                Check.is("are 0", x.setGroundDelay(5), 0);
                errorIs("ground" + "0".repeat(zeros) + "1000;".substring(0, 4), 2, 6);
            }
            for (int digits = 4; digits <= 393; digits++) {
                errorIs("ground" + "9".repeat(digits) + ";", 2, 6);
            }
            // What a number of 32 or 64 bits would take for 5.
            for (String number : new String[] {"4294967301", "8589934597", "18446744073709551621",
                "340282366920938463463374607431768211461", "2147483653", "65541", "261"}) {
                errorIs("fresh 0 " + number + ";", 2, 8);
            }
        });
    }

    private static void grammar() {
        Edges.holds("setup = { statement \";\" }", () -> {
            right("");
            for (String first : STATEMENTS) {
                right(first);
                for (String second : STATEMENTS) {
                    PassLink x = new PassLink();
                    Check.is(first + second, Check.load(x, first + second), 2);
                }
                errorIs(first.replace(";", ""), 1, first.length() - 1);
                errorIs(first + ";", 1, first.length());
                errorIs(";" + first, 1, 0);
            }
        });
        String statements = "statement = \"orbit\" PERIOD SHIFT NODE | \"station\" LONGITUDE REACH LENGTH PHASE RATE LOSS |"
                + " \"ground\" DELAY | \"patience\" MINUTES | \"fresh\" LIMIT BONUS | \"memory\" FRAMES | \"policy\" ("
                + " \"stay\" | \"longest\" ) | \"record\" SIZE PRIORITY";
        Edges.holds(statements, () -> {
            for (String statement : STATEMENTS) {
                List<String> tokens = List.of(statement.trim().split(" "));
                for (int place = 0; place < tokens.size(); place++) {
                    int position = String.join(" ", tokens.subList(0, place)).length() + (place == 0 ? 0 : 1);
                    for (String other : new String[] {"x", "stay", "orbit", "?", "5", ";"}) {
                        if (isWrong(tokens.get(place), other)) {
                            errorIs(replaced(tokens, place, other), 1, position);
                        }
                    }
                    // A token is missing, or one is too many.
                    if (!tokens.get(place).equals(";")) {
                        errorIs(replaced(tokens, place, ""), 1, positionOfNext(tokens, place, position));
                    }
                }
            }
        });
        Edges.holds("\"policy\" ( \"stay\" | \"longest\" )", () -> {
            for (String word : new String[] {"sta", "stays", "xtay", "stax", "longes", "longests", "xongest", "longesx",
                "policy", "record", "0", "1"}) {
                errorIs("policy " + word + ";", 1, 7);
            }
            PassLink x = Check.loaded("policy longest;");
            Check.is("longest", x.setPolicy(0), 1);
            PassLink y = Check.loaded("policy longest;policy stay;");
            Check.is("stay", y.setPolicy(0), 0);
        });
    }

    /** Whether another token is not allowed in the place of one: words for words may be, numbers for numbers are. */
    private static boolean isWrong(String token, String other) {
        boolean number = token.matches("[0-9]+");
        return !other.equals(token) && !(number && other.matches("[0-9]+"))
                && !(token.equals("longest") && other.equals("stay"))
                && !(other.equals("orbit") && token.matches("orbit|station|ground|patience|fresh|memory|policy|record"));
    }

    private static String replaced(List<String> tokens, int place, String other) {
        List<String> changed = new ArrayList<>(tokens);
        changed.set(place, other);
        return String.join(" ", changed);
    }

    /**
     * Where the error is if a token is left out and two spaces stand there. Without a number the others move up, so
     * that the semicolon is the wrong one; without a word the next token is.
     */
    private static int positionOfNext(List<String> tokens, int place, int position) {
        boolean number = tokens.get(place).matches("[0-9]+");
        String text = replaced(tokens, place, "");
        return number ? text.indexOf(';') : position + 1;
    }

    private static void ranges() {
        Edges.holds("The numbers have the ranges given above.", () -> {
            for (Place place : PLACES) {
                for (int value : new int[] {place.low(), place.low() + 1, place.high() - 1, place.high()}) {
                    PassLink x = Check.loaded(place.with(Integer.toString(value)));
                    Check.is(value + " in " + place.text(), place.told().by(x, value), true);
                }
                errorIs(place.with(Integer.toString(place.high() + 1)), 2, place.position());
                if (place.low() > 0) {
                    errorIs(place.with(Integer.toString(place.low() - 1)), 2, place.position());
                    errorIs(place.with("0"), 2, place.position());
                }
                // There is no sign for less than 0.
                errorIs(place.with("-1"), 1, place.position());
            }
        });
    }

    private static void order() {
        Edges.holds("The statements take effect in their order", () -> {
            PassLink x = Check.loaded("ground 5;ground 6;");
            Check.is("the last one counts", x.setGroundDelay(0), 6);
            right("memory 24;record 24 0;memory 25;record 1 0;");
            errorIs("memory 25;memory 24;record 24 0;record 1 0;", 3, 39);
            errorIs("record 24 0;record 1 0;memory 24;", 3, 30);
            PassLink y = Check.loaded("record 1 3;record 2 4;" + "station 0 0 1 0 1 7;station 0 0 1 0 1 8;");
            Check.is("record 0", y.setPriority(0, 0), 3);
            Check.is("record 1", y.setPriority(1, 0), 4);
            Check.is("station 0", y.setLoss(0, 0), 7);
            Check.is("station 1", y.setLoss(1, 0), 8);
        });
        Edges.holds("as the methods with similar names, on a new simulator at the time 0; \"record\" adds a record.", () -> {
            for (Check.Scene scene : new Check.Scene[] {Scenes.EMPTY, Scenes.BUSY, Scenes.FULL, Scenes.AT_THE_END}) {
                Check.same("state", () -> {
                    PassLink x = scene.make();
                    x.truncateText(0);
                    Check.load(x, "orbit 61 2 3;station 4 50 6 7 8 9;station 10 11 12 13 14 15;ground 16;patience 17;"
                            + "fresh 18 9;memory 30;policy longest;record 20 1;record 10 2;");
                    x.save(0);
                    x.save(1);
                    return x;
                }, () -> {
                    PassLink y = new PassLink();
                    y.setOrbit(61, 2, 3);
                    y.addStation(4, 50, 6, 7, 8, 9);
                    y.addStation(10, 11, 12, 13, 14, 15);
                    y.setGroundDelay(16);
                    y.setPatience(17);
                    y.setFresh(18, 9);
                    y.setMemory(30);
                    y.setPolicy(1);
                    y.addRecord(20, 1);
                    y.addRecord(10, 2);
                    y.save(0);
                    y.save(1);
                    return y;
                });
            }
        });
    }

    private static void firstError() {
        Edges.holds("Errors in a text: the parser reads the tokens from the first one on and stops at the first token that"
                + " is wrong.", () -> {
            errorIs("ground 1000;?", 2, 7);
            errorIs("?ground 1000;", 1, 0);
            errorIs("ground ? 1000;", 1, 7);
            errorIs("record 25 10;", 2, 7);
            errorIs("record 24 10;?", 2, 10);
            errorIs("station 360 91 0 60 0 100;", 2, 8);
            errorIs("station 359 91 0 60 0 100;", 2, 12);
            errorIs("station 359 90 0 60 0 100;", 2, 15);
            errorIs("station 359 90 30 60 0 100;", 2, 18);
            errorIs("station 359 90 30 59 0 100;", 2, 21);
            errorIs("station 359 90 30 59 20 100;", 2, 24);
            errorIs("orbit 59 360 360?", 2, 6);
            errorIs("orbit 60 360 360?", 2, 9);
            errorIs("orbit 60 359 360?", 2, 13);
            errorIs("orbit 60 359 359?", 1, 16);
            errorIs("memory 24;record 24 0;record 1 10;", 3, 29);
            errorIs("memory 24;record 24 10;record 1 0;", 2, 20);
        });
    }

    private static void errorPositions() {
        Edges.holds("The error position is the index of its first byte", () -> {
            for (int ahead = 0; ahead <= 390; ahead += 13) {
                errorIs(" ".repeat(ahead) + "wrong", 1, ahead);
                errorIs("\n".repeat(ahead) + "12345;", 1, ahead);
            }
            errorIs(" ".repeat(399) + ";", 1, 399);
            errorIs("ground" + " ".repeat(100) + "1000;", 2, 106);
            errorIs("ground 00001000;", 2, 7);
        });
        Edges.holds("or the length of the text if the text ends too early.", () -> {
            for (String statement : STATEMENTS) {
                String[] tokens = statement.trim().split(" ");
                StringBuilder text = new StringBuilder();
                for (int place = 0; place < tokens.length - 1; place++) {
                    text.append(place == 0 ? "" : " ").append(tokens[place]);
                    errorIs(text.toString(), 1, text.length());
                    errorIs(text + "  \n", 1, text.length() + 3);
                    errorIs(text + " ".repeat(400 - text.length()), 1, 400);
                    errorIs("ground 5;" + text, 1, 9 + text.length());
                }
            }
        });
    }

    private static void notAllowed() {
        Edges.holds("The error code is 1 if the token is not allowed there or a byte belongs to no token", () -> {
            errorIs("5;", 1, 0);
            errorIs(";", 1, 0);
            errorIs("ground ground;", 1, 7);
            errorIs("ground 5 ground;", 1, 9);
            errorIs("ground 5 5;", 1, 9);
            errorIs("ground ;", 1, 7);
            errorIs("longest;", 1, 0);
            errorIs("setup;", 1, 0);
            for (char c : new char[] {0, 9, 11, 13, 31, 33, '/', ':', '<', '@', 'A', 'Z', '[', '`', '{', 127, 128, 255}) {
                errorIs("ground 5; " + c, 1, 10);
                errorIs("ground " + c + "5;", 1, 7);
            }
        });
    }

    private static void outOfRange() {
        Edges.holds("2 if a number is out of its range", () -> {
            for (Place place : PLACES) {
                for (String number : new String[] {Integer.toString(place.high() + 1), "10000", "99999", "100000", "999999",
                    "2147483647", "2147483648", "4294967296", "9223372036854775808", "18446744073709551616"}) {
                    errorIs(place.with(number), 2, place.position());
                }
            }
        });
    }

    private static void noRoom() {
        Edges.holds("and 3 for the word \"station\" of a 5th station", () -> {
            String four = STATION.repeat(4);
            right(four);
            errorIs(four + "station", 3, 80);
            errorIs(four + STATION, 3, 80);
            errorIs(four + "ground 5; \nstation ?", 3, 91);
            errorIs(four + "stations", 1, 80);
            errorIs(STATION.repeat(3) + "station ;", 1, 68);
        });
        Edges.holds("the word \"record\" of a 41st record", () -> {
            // The shortest record has ten bytes, so that no text of 400 bytes has a 41st: the 40th is not refused.
            String forty = "record1 0;".repeat(40);
            right(forty);
            errorIs(forty.substring(0, 399), 1, 399);
            errorIs("record1 0;".repeat(39) + "records", 1, 390);
            PassLink x = new PassLink();
            Check.append(x, forty, 0);
            Check.is("no room for more", Check.thrownBy(x, l -> l.appendText(0)), "IllegalStateException");
            x.load();
            Check.is("by the method", Check.thrownBy(x, l -> l.addRecord(1, 0)), "IllegalStateException");
        });
        Edges.holds("the size of a record for which there is not enough memory", () -> {
            right("memory 25;record 24 0;record 1 0;");
            errorIs("memory 25;record 24 0;record 2 0;", 3, 29);
            errorIs("memory 25;record 24 0;record 24 0;", 3, 29);
            errorIs("memory 25;record 24 0;record 25 0;", 2, 29);
            errorIs("memory 25;record 24 0;record 2", 3, 29);
            errorIs("memory 25;record 24 0;record 2?", 3, 29);
            errorIs("memory 24;record 24 0;record 1 0;", 3, 29);
            // 300 frames at first: twelve records of 24 and one of 12.
            right("record24 0;".repeat(12) + "record12 0;");
            errorIs("record24 0;".repeat(12) + "record13 0;", 3, 138);
        });
        Edges.holds("or the number of frames of a memory that is less than what is in use.", () -> {
            right("record 24 0;record 1 0;memory 25;");
            errorIs("record 24 0;record 1 0;memory 24;", 3, 30);
            errorIs("record 24 0;record 1 0;memory 24", 3, 30);
            errorIs("record 24 0;record 1 0;memory 24?", 3, 30);
            errorIs("record 24 0;record 1 0;memory 23;", 2, 30);
            errorIs("record 24 0;record 1 0;memory 961;", 2, 30);
            right("record 24 0;memory 24;");
        });
    }
}
