/** Sentences of the promises 35 to 45: time and contacts. */
final class EdgesOfContacts {
    private static final Check.Scene[] ANY = {Scenes.EMPTY, Scenes.BUSY, Scenes.FULL, Scenes.AT_THE_END};
    private static final String NO_SUCH_CONTACT =
            "Throws `IndexOutOfBoundsException` if there is no such contact, or it was forgotten";

    private EdgesOfContacts() {
    }

    static void hold() {
        time();
        advance();
        contactCount();
        presentStation();
        contactStation();
        contactBegin();
        contactEnd();
        reportState();
        contactFrames();
        contactTotal();
        lastContact();
    }

    /** A record and one contact of a minute in each 100 minutes; this many of them, the latest one ended. */
    private static PassLink after(int contacts) {
        PassLink x = Scenes.steady(0, 1, 1);
        x.addRecord(1, 0);
        for (int n = 0; n < contacts; n++) {
            x.advance(100);
        }
        return x;
    }

    private static final Check.Scene SIXTY = () -> after(60);
    private static final Check.Scene SIXTY_ONE = () -> after(61);
    private static final Check.Scene SEVENTY = () -> after(70);

    /** No contacts, 2 of them, 60 and all kept, 61 and the first forgotten, 70 and ten forgotten. */
    private static void contactLimits(Edges.Numbered call) {
        Edges.limits("`contact`: a kept contact", Edges.INDEX, 0, -1, call, Scenes.EMPTY);
        Edges.limits("`contact`: a kept contact", Edges.INDEX, 0, 1, call, Scenes.BUSY);
        Edges.limits("`contact`: a kept contact", Edges.INDEX, 0, 59, call, SIXTY);
        Edges.limits("`contact`: a kept contact", Edges.INDEX, 1, 60, call, SIXTY_ONE);
        Edges.limits("`contact`: a kept contact", Edges.INDEX, 10, 69, call, SEVENTY);
    }

    private static void noSuchContact(Edges.Numbered call) {
        contactLimits(call);
        Edges.holds(NO_SUCH_CONTACT, () -> {
            Edges.refuses(Edges.INDEX, l -> call.on(l, 0), Scenes.EMPTY, SIXTY_ONE, Scenes.FULL);
            Edges.refuses(Edges.INDEX, l -> call.on(l, -1), Scenes.EMPTY, Scenes.BUSY, SIXTY, SIXTY_ONE);
            Edges.refuses(Edges.INDEX, l -> call.on(l, 2), Scenes.BUSY);
            Edges.refuses(Edges.INDEX, l -> call.on(l, 60), Scenes.BUSY, SIXTY);
            Edges.refuses(Edges.INDEX, l -> call.on(l, 61), SIXTY_ONE);
            Edges.refuses(Edges.INDEX, l -> call.on(l, l.contactCount()), Scenes.FULL, Scenes.AT_THE_END);
            Edges.refuses(Edges.INDEX, l -> call.on(l, l.contactCount() - 61), Scenes.FULL, Scenes.AT_THE_END);
            Check.is("the oldest kept", Check.thrownBy(Scenes.full(), l -> call.on(l, l.contactCount() - 60)), "nothing");
        });
    }

    private static void time() {
        Edges.promise(35);
        Edges.holds("Returns the present time.", () -> {
            Check.is("at first", new PassLink().time(), 0);
            PassLink x = new PassLink();
            x.advance(1);
            Check.is("a minute", x.time(), 1);
            x.advance(1440);
            Check.is("a day more", x.time(), 1441);
            Check.is("the last", Scenes.atTheEnd().time(), 20000);
        });
    }

    /** A simulator at any time, without stations. */
    private static PassLink at(int time) {
        PassLink x = new PassLink();
        while (x.time() < time) {
            x.advance(Math.min(1440, time - x.time()));
        }
        return x;
    }

    private static void advance() {
        Edges.promise(36);
        Edges.limits("`minutes`: 1 to 1440", Edges.ARGUMENT, 1, 1440, PassLink::advance,
                Scenes.EMPTY, Scenes.BUSY, Scenes.FULL);
        Edges.holds("Lets minutes take place.", () -> {
            PassLink x = Scenes.steady(0, 30, 1);
            x.addRecord(24, 0);
            x.advance(1);
            Check.is("one", x.stationFigure(0, 1), 1);
            x.advance(7);
            Check.is("seven more", x.stationFigure(0, 1), 8);
            Check.is("sent", x.figure(0), 8);
            x.advance(1440);
            Check.is("1440 more", x.stationFigure(0, 1), 15 * 30);
        });
        Edges.holds("Returns the present time then.", () -> {
            PassLink x = new PassLink();
            Check.is("the fewest", x.advance(1), 1);
            Check.is("the most", x.advance(1440), 1441);
            Check.is("to 20000", at(19999).advance(1), 20000);
        });
        Edges.holds("Throws `IllegalArgumentException` if minutes is out of range", () -> {
            // At 20000 the time would be too great, too: this comes first.
            for (int minutes : new int[] {0, -1, 1441, Integer.MIN_VALUE, Integer.MAX_VALUE}) {
                Edges.refuses(Edges.ARGUMENT, l -> l.advance(minutes), ANY);
            }
        });
        Edges.holds("Throws `IllegalStateException` if the present time would be greater than 20000", () -> {
            Edges.refuses(Edges.STATE, l -> l.advance(1), Scenes.AT_THE_END);
            Edges.refuses(Edges.STATE, l -> l.advance(1440), Scenes.AT_THE_END);
            Edges.refuses(Edges.STATE, l -> l.advance(2), () -> at(19999));
            Edges.refuses(Edges.STATE, l -> l.advance(1440), () -> at(18561));
            Check.is("just to 20000", at(18560).advance(1440), 20000);
            PassLink x = at(19990);
            Check.is("a minute too many", Check.thrownBy(x, l -> l.advance(11)), "IllegalStateException");
            Check.is("not a minute took place", x.time(), 19990);
            Check.is("just enough", x.advance(10), 20000);
        });
    }

    private static void contactCount() {
        Edges.promise(37);
        Edges.holds("Returns the number of contacts so far, forgotten ones and the present one included.", () -> {
            Check.is("none", new PassLink().contactCount(), 0);
            PassLink x = Scenes.steady(0, 5, 1);
            Check.is("none yet", x.contactCount(), 0);
            x.advance(1);
            Check.is("the present one", x.contactCount(), 1);
            x.advance(99);
            Check.is("no other", x.contactCount(), 1);
            Check.is("60 kept", after(60).contactCount(), 60);
            Check.is("one forgotten", after(61).contactCount(), 61);
            Check.is("ten forgotten", after(70).contactCount(), 70);
        });
    }

    private static void presentStation() {
        Edges.promise(38);
        Edges.holds("Returns the station of the present contact", () -> {
            PassLink x = Scenes.steady(0, 2, 1, 10, 1, 1, 20, 1, 1, 30, 1, 1);
            x.advance(1);
            Check.is("the first", x.presentStation(), 0);
            x.advance(1);
            Check.is("until another minute takes place", x.presentStation(), 0);
            x.advance(29);
            Check.is("the last", x.presentStation(), 3);
        });
        Edges.holds("NONE if there is none.", () -> {
            Check.is("no stations", new PassLink().presentStation(), -1);
            PassLink x = Scenes.steady(1, 1, 1);
            Check.is("at first", x.presentStation(), -1);
            x.advance(1);
            Check.is("ahead", x.presentStation(), -1);
            x.advance(2);
            Check.is("behind", x.presentStation(), -1);
        });
    }

    private static void contactStation() {
        Edges.promise(39);
        noSuchContact(PassLink::contactStation);
        Edges.holds("Returns its station.", () -> {
            PassLink x = Scenes.steady(0, 2, 1, 10, 1, 1, 20, 1, 1, 30, 1, 1);
            x.advance(1440);
            x.advance(160);
            Check.is("64 contacts", x.contactCount(), 64);
            for (int contact = 4; contact < 64; contact++) {
                Check.is("of " + contact, x.contactStation(contact), contact % 4);
            }
        });
    }

    private static void contactBegin() {
        Edges.promise(40);
        noSuchContact(PassLink::contactBegin);
        Edges.holds("Returns the time at which it began.", () -> {
            Check.is("at 0", after(1).contactBegin(0), 0);
            PassLink x = after(70);
            for (int contact = 10; contact < 70; contact++) {
                Check.is("of " + contact, x.contactBegin(contact), 100 * contact);
            }
        });
    }

    private static void contactEnd() {
        Edges.promise(41);
        noSuchContact(PassLink::contactEnd);
        Edges.holds("Returns the time at which it ended", () -> {
            PassLink x = after(70);
            for (int contact = 10; contact < 70; contact++) {
                Check.is("of " + contact, x.contactEnd(contact), 100 * contact + 1);
            }
        });
        Edges.holds("NONE for the present contact.", () -> {
            PassLink x = Scenes.steady(0, 2, 1);
            x.advance(1);
            Check.is("the first minute", x.contactEnd(0), -1);
            x.advance(1);
            Check.is("the last minute", x.contactEnd(0), -1);
            x.advance(1);
            Check.is("the minute behind", x.contactEnd(0), 2);
        });
    }

    private static void reportState() {
        Edges.promise(42);
        noSuchContact(PassLink::reportState);
        Edges.holds("Returns 0 if the satellite has not got its report, 1 if it has given it up, 2 if it has got the"
                + " report.", () -> {
            PassLink x = Scenes.steady(0, 1, 1, 50, 1, 1);
            x.setGroundDelay(999);
            x.setPatience(49);
            x.advance(1);
            Check.is("the present one", x.reportState(0), 0);
            x.advance(49);
            Check.is("ended", x.reportState(0), 0);
            x.advance(1);
            Check.is("given up at 50", x.reportState(0), 1);
            x.advance(49);
            Check.is("still so", x.reportState(0), 1);
            x.advance(1);
            Check.is("it comes at 100", x.reportState(0), 2);
            Check.is("the one of 50 is given up", x.reportState(1), 1);
            x.advance(200);
            Check.is("it stays so", x.reportState(0), 2);
        });
    }

    private static void contactFrames() {
        Edges.promise(43);
        contactLimits((l, v) -> l.contactFrames(v, 0, false));
        contactLimits((l, v) -> l.contactFrames(v, 0, true));
        Edges.limits("`record`: a record", Edges.INDEX, 0, 2, (l, v) -> l.contactFrames(1, v, false), Scenes.BUSY);
        Edges.limits("`record`: a record", Edges.INDEX, 0, 0, (l, v) -> l.contactFrames(59, v, true), SIXTY);
        Edges.limits("`record`: a record", Edges.INDEX, 0, 39,
                (l, v) -> l.contactFrames(l.contactCount() - 1, v, true), Scenes.FULL);
        Edges.holds("`received`: false: the frames of the record that were sent in the contact; true: those of them that"
                + " were received", () -> {
            // The states behind this seed are another, 0 and 12345, and the draws behind the first are 0 and 0.
            PassLink x = Scenes.steady(0, 1, 3);
            x.setLoss(0, 1);
            x.setSeed(Draws.before(Draws.before(0)));
            x.addRecord(24, 0);
            x.addRecord(24, 0);
            x.advance(1);
            Check.is("sent", x.contactFrames(0, 0, false), 7);
            Check.is("received", x.contactFrames(0, 0, true), 1);
            Check.is("sent of the other", x.contactFrames(0, 1, false), 0);
            Check.is("received of the other", x.contactFrames(0, 1, true), 0);
        });
        Edges.holds("Returns these frames as a bit mask.", () -> {
            PassLink x = Scenes.steady(0, 2, 20);
            for (int n = 0; n < 40; n++) {
                x.addRecord(1, 0);
            }
            x.advance(2);
            Check.is("the first record", x.contactFrames(0, 0, true), 1);
            Check.is("the last record", x.contactFrames(0, 39, true), 1);
            PassLink y = Scenes.steady(0, 2, 12);
            y.addRecord(24, 0);
            y.advance(1);
            Check.is("the first half", y.contactFrames(0, 0, false), 0xfff);
            y.advance(1);
            Check.is("all", y.contactFrames(0, 0, true), 0xffffff);
            y.advance(100);
            Check.is("nothing in the next one", y.contactFrames(1, 0, false), 0);
            Check.is("sent in the first of 60", after(60).contactFrames(0, 0, false), 1);
            Check.is("not sent in the one that follows them", after(61).contactFrames(60, 0, false), 0);
            Check.is("not received there", after(61).contactFrames(60, 0, true), 0);
        });
        Edges.holds("Throws `IndexOutOfBoundsException` if there is no such contact or record, or the contact was"
                + " forgotten", () -> {
            for (boolean received : new boolean[] {false, true}) {
                Edges.refuses(Edges.INDEX, l -> l.contactFrames(0, 0, received), Scenes.EMPTY, SIXTY_ONE, Scenes.FULL);
                Edges.refuses(Edges.INDEX, l -> l.contactFrames(-1, 0, received), ANY);
                Edges.refuses(Edges.INDEX, l -> l.contactFrames(l.contactCount() - 1, -1, received), ANY);
                Edges.refuses(Edges.INDEX, l -> l.contactFrames(2, 0, received), Scenes.BUSY);
                Edges.refuses(Edges.INDEX, l -> l.contactFrames(0, 3, received), Scenes.BUSY);
                Edges.refuses(Edges.INDEX, l -> l.contactFrames(59, 1, received), SIXTY);
                Edges.refuses(Edges.INDEX, l -> l.contactFrames(60, 0, received), SIXTY);
                Edges.refuses(Edges.INDEX, l -> l.contactFrames(l.contactCount() - 1, 40, received), Scenes.FULL);
                Edges.refuses(Edges.INDEX, l -> l.contactFrames(l.contactCount(), 0, received), Scenes.FULL);
                Edges.refuses(Edges.INDEX, l -> l.contactFrames(l.contactCount() - 61, 39, received), Scenes.FULL);
                Edges.refuses(Edges.INDEX, l -> l.contactFrames(-1, -1, received), ANY);
            }
        });
    }

    private static void contactTotal() {
        Edges.promise(44);
        noSuchContact((l, v) -> l.contactTotal(v, false));
        noSuchContact((l, v) -> l.contactTotal(v, true));
        Edges.holds("`received`: false: for the frames that were sent in the contact; true: for those of them that were"
                + " received", () -> {
            PassLink x = Scenes.steady(0, 1, 3);
            x.setLoss(0, 1);
            x.setSeed(Draws.before(Draws.before(0)));
            x.addRecord(24, 0);
            x.advance(1);
            Check.is("sent", x.contactTotal(0, false), 3);
            Check.is("received", x.contactTotal(0, true), 1);
        });
        Edges.holds("Returns the number of these frames of all records.", () -> {
            PassLink x = Scenes.steady(0, 30, 20);
            x.setMemory(960);
            Check.is("none to send", totalAfter(x, 1), 0);
            for (int n = 0; n < 40; n++) {
                x.addRecord(24, n % 10);
            }
            Check.is("one minute", totalAfter(x, 1), 20);
            Check.is("28 minutes more", totalAfter(x, 28), 29 * 20);
            PassLink y = Scenes.steady(0, 2, 20);
            for (int n = 0; n < 40; n++) {
                y.addRecord(1, n % 10);
            }
            Check.is("half of the records", totalAfter(y, 1), 20);
            Check.is("all the records", totalAfter(y, 1), 40);
            Check.is("none behind 60 contacts", after(61).contactTotal(60, false), 0);
        });
    }

    private static int totalAfter(PassLink x, int minutes) {
        x.advance(minutes);
        Check.is("received", x.contactTotal(0, true), x.contactTotal(0, false));
        return x.contactTotal(0, false);
    }

    private static void lastContact() {
        Edges.promise(45);
        Edges.limits("`station`: a station", Edges.INDEX, 0, -1, PassLink::lastContact, Scenes.EMPTY);
        Edges.limits("`station`: a station", Edges.INDEX, 0, 1, PassLink::lastContact, Scenes.BUSY);
        Edges.limits("`station`: a station", Edges.INDEX, 0, 3, PassLink::lastContact, Scenes.FULL);
        Edges.holds("Returns the number of the latest kept contact with it, perhaps the present one", () -> {
            PassLink x = Scenes.steady(0, 1, 1, 50, 1, 1);
            x.advance(1);
            Check.is("the present one", x.lastContact(0), 0);
            x.advance(50);
            Check.is("the present one", x.lastContact(1), 1);
            Check.is("the one before", x.lastContact(0), 0);
            x.advance(100);
            Check.is("a later one", x.lastContact(0), 2);
            Check.is("a later one", x.lastContact(1), 3);
        });
        Edges.holds("latest kept contact", () -> {
            // Station 1 is seen in orbit 0 alone, station 0 in every orbit.
            PassLink x = new PassLink();
            x.setOrbit(60, 1, 0);
            x.addStation(0, 90, 1, 1, 1, 0);
            x.addStation(0, 0, 1, 0, 1, 0);
            x.advance(1440);
            x.advance(1440);
            x.advance(58 * 60 + 2 - 2880);
            Check.is("60 contacts", x.contactCount(), 60);
            Check.is("it is the oldest kept", x.lastContact(1), 0);
            x.advance(60);
            Check.is("61 contacts", x.contactCount(), 61);
            Check.is("it is forgotten", x.lastContact(1), -1);
            Check.is("the latest of all", x.lastContact(0), 60);
        });
        Edges.holds("NONE if there is none.", () -> {
            PassLink x = Scenes.steady(0, 1, 1, 50, 1, 1);
            Check.is("ahead of all", x.lastContact(0), -1);
            x.advance(50);
            Check.is("none with the other", x.lastContact(1), -1);
        });
        Edges.holds("Throws `IndexOutOfBoundsException` if there is no such station", () -> {
            Edges.refuses(Edges.INDEX, l -> l.lastContact(0), Scenes.EMPTY);
            Edges.refuses(Edges.INDEX, l -> l.lastContact(2), Scenes.BUSY);
            Edges.refuses(Edges.INDEX, l -> l.lastContact(4), Scenes.FULL);
            Edges.refuses(Edges.INDEX, l -> l.lastContact(-1), ANY);
        });
    }
}
