/** Promises 35 to 45: time and contacts, with the four steps of a minute. */
public final class ContactsTest {
    private static final int[] NO_CONTACT = {-1, 2, 60, Integer.MIN_VALUE, Integer.MAX_VALUE};

    public static void main(String[] args) {
        time();
        wrongAdvance();
        stay();
        longest();
        ties();
        sameContactGoesOn();
        reportAtTheSameStation();
        reportByGroundDelay();
        reportOfTheMinute();
        lossesComeBack();
        patience();
        patienceAtItsEdge();
        framesOfContacts();
        lateReportAfterGivingUp();
        forgottenContacts();
        manyContacts();
        lastContact();
        wrongContacts();
        Check.end();
    }

    private static void time() {
        PassLink x = new PassLink();
        Check.is("one minute", x.advance(1), 1);
        Check.is("a day", x.advance(1440), 1441);
        Check.is("time", x.time(), 1441);
        for (int n = 0; n < 12; n++) {
            x.advance(1440);
        }
        Check.is("beyond 20000", Check.thrownBy(x, l -> l.advance(20001 - l.time())), "IllegalStateException");
        Check.is("unchanged", x.time(), 18721);
        Check.is("to 20000", x.advance(1279), 20000);
        Check.is("one more", Check.thrownBy(x, l -> l.advance(1)), "IllegalStateException");
        Check.is("the range first", Check.thrownBy(x, l -> l.advance(1441)), "IllegalArgumentException");
        Check.is("time", x.time(), 20000);
    }

    private static void wrongAdvance() {
        for (int minutes : new int[] {0, -1, 1441, Integer.MIN_VALUE, Integer.MAX_VALUE}) {
            Check.refuses("advance", IllegalArgumentException.class, Scenes.BUSY, l -> l.advance(minutes));
        }
    }

    private static void contactIs(PassLink x, int contact, int station, int begin, int end) {
        Check.is("station of " + contact, x.contactStation(contact), station);
        Check.is("begin of " + contact, x.contactBegin(contact), begin);
        Check.is("end of " + contact, x.contactEnd(contact), end);
    }

    private static void stay() {
        PassLink x = Scenes.steady(0, 10, 1, 5, 15, 1);
        Check.is("none yet", x.presentStation(), -1);
        x.advance(1);
        Check.is("present", x.presentStation(), 0);
        contactIs(x, 0, 0, 0, -1);
        x.advance(9);
        Check.is("present until the next minute", x.presentStation(), 0);
        Check.is("one", x.contactCount(), 1);
        x.advance(1);
        Check.is("handed over", x.presentStation(), 1);
        contactIs(x, 0, 0, 0, 10);
        contactIs(x, 1, 1, 10, -1);
        x.advance(10);
        Check.is("none", x.presentStation(), -1);
        contactIs(x, 1, 1, 10, 20);
        Check.is("two", x.contactCount(), 2);
        // Behind the present one the station whose pass ends last is chosen.
        PassLink y = Scenes.steady(0, 10, 1, 5, 15, 1, 5, 25, 1);
        y.advance(11);
        Check.is("the last to end", y.presentStation(), 2);
        PassLink z = Scenes.steady(0, 5, 1, 0, 20, 1, 0, 10, 1);
        z.advance(1);
        Check.is("the last to end at once", z.presentStation(), 1);
    }

    private static void longest() {
        PassLink x = Scenes.steady(0, 10, 1, 5, 15, 1, 6, 2, 1);
        x.setPolicy(1);
        x.advance(30);
        Check.is("two", x.contactCount(), 2);
        contactIs(x, 0, 0, 0, 5);
        contactIs(x, 1, 1, 5, 20);
        // A policy that is set in a contact holds from the next minute on.
        PassLink y = Scenes.steady(0, 10, 1, 5, 15, 1);
        y.advance(7);
        Check.is("stays", y.presentStation(), 0);
        y.setPolicy(1);
        y.advance(1);
        Check.is("hands over", y.presentStation(), 1);
        contactIs(y, 0, 0, 0, 7);
        contactIs(y, 1, 1, 7, -1);
    }

    private static void ties() {
        PassLink x = Scenes.steady(5, 15, 1, 0, 20, 1);
        x.setPolicy(1);
        x.advance(10);
        Check.is("the present one", x.presentStation(), 1);
        Check.is("one", x.contactCount(), 1);
        PassLink y = Scenes.steady(0, 20, 1, 0, 20, 1);
        y.setPolicy(1);
        y.advance(1);
        Check.is("the lowest", y.presentStation(), 0);
        PassLink z = Scenes.steady(5, 15, 1, 5, 15, 1, 0, 10, 1);
        z.setPolicy(1);
        z.advance(6);
        Check.is("the lowest of two others", z.presentStation(), 0);
        z.advance(10);
        Check.is("and no change", z.contactCount(), 2);
        PassLink w = Scenes.steady(5, 15, 1, 5, 15, 1, 0, 10, 1);
        w.advance(11);
        Check.is("the lowest by STAY", w.presentStation(), 0);
    }

    /** A contact is made of minutes, not of passes: another orbit under it does not end it. */
    private static void sameContactGoesOn() {
        PassLink x = Scenes.steady(0, 10, 1);
        x.advance(5);
        x.setOrbit(105, 0, 0);
        x.advance(1);
        Check.is("one", x.contactCount(), 1);
        x.setOrbit(105, 0, 90);
        x.advance(1);
        contactIs(x, 0, 0, 0, 6);
        x.setOrbit(105, 0, 0);
        x.advance(1);
        contactIs(x, 1, 0, 7, -1);
        Check.is("no handover", x.handovers(), 0);
    }

    private static void reportAtTheSameStation() {
        PassLink x = Scenes.steady(0, 2, 1);
        x.setGroundDelay(999);
        x.addRecord(2, 0);
        x.advance(100);
        Check.is("awaited", x.reportState(0), 0);
        Check.is("under way", x.frames(0, 1), 3);
        x.advance(1);
        Check.is("got", x.reportState(0), 2);
        Check.is("acknowledged", x.frames(0, 2), 3);
        Check.is("the present one's", x.reportState(1), 0);
        Check.is("released", x.releasedAt(0), 100);
    }

    private static void reportByGroundDelay() {
        for (int delay = 48; delay <= 49; delay++) {
            PassLink x = Scenes.steady(0, 2, 1, 50, 2, 1);
            x.setGroundDelay(delay);
            x.addRecord(2, 0);
            x.advance(50);
            Check.is("no contact, no report", x.reportState(0), 0);
            x.advance(1);
            Check.is("48 minutes by " + delay, x.reportState(0), delay == 48 ? 2 : 0);
            Check.is("released by " + delay, x.releasedAt(0), delay == 48 ? 50 : -1);
            Check.is("foreign by " + delay, x.stationFigure(1, 4), delay == 48 ? 1 : 0);
            x.advance(50);
            Check.is("at the latest at its own station", x.releasedAt(0), delay == 48 ? 50 : 100);
        }
    }

    private static void reportOfTheMinute() {
        PassLink x = Scenes.steady(0, 2, 1, 0, 1, 1);
        x.setGroundDelay(0);
        x.addRecord(1, 0);
        x.setPolicy(1);
        x.advance(1);
        x.addStation(0, 0, 30, 1, 1, 0);
        x.advance(1);
        Check.is("handed over", x.presentStation(), 2);
        Check.is("got at once", x.reportState(0), 2);
        Check.is("released", x.releasedAt(0), 1);
    }

    /** Draws from the state 1: 38, 58, 13, 15, ... */
    private static void lossesComeBack() {
        PassLink x = Scenes.steady(0, 1, 4);
        x.setLoss(0, 20);
        x.addRecord(4, 0);
        x.advance(1);
        Check.is("sent", x.contactFrames(0, 0, false), 15);
        Check.is("received", x.contactFrames(0, 0, true), 3);
        Check.is("archived", x.frames(0, 3), 3);
        Check.is("lost", x.figure(1), 2);
        Check.is("nobody knows", x.frames(0, 1), 15);
        x.setLoss(0, 0);
        x.advance(100);
        Check.is("the report's", x.frames(0, 2), 3);
        Check.is("sent again", x.frames(0, 1), 12);
        Check.is("what was sent again", x.contactFrames(1, 0, false), 12);
        Check.is("delivered", x.deliveredAt(0), 100);
        Check.is("not released", x.releasedAt(0), -1);
        x.advance(100);
        Check.is("released", x.releasedAt(0), 200);
    }

    private static PassLink impatient(int patience) {
        PassLink x = Scenes.steady(0, 2, 1, 50, 2, 1);
        x.setGroundDelay(999);
        x.setPatience(patience);
        x.addRecord(2, 0);
        return x;
    }

    private static void patience() {
        PassLink x = impatient(48);
        x.advance(51);
        Check.is("given up", x.reportState(0), 1);
        Check.is("one is sent again", x.frames(0, 1), 1);
        Check.is("one is to send again", x.frames(0, 0), 2);
        Check.is("last in contact 1", x.sentIn(0, 0), 1);
        x.advance(1);
        Check.is("both are duplicates", x.figure(2), 2);
        Check.is("delivered once", x.deliveredAt(0), 1);
        Check.is("once", x.figure(4), 1);
        Check.is("one contact", x.figure(7), 1);
        x.advance(49);
        Check.is("the report comes late", x.reportState(0), 2);
        Check.is("and counts", x.releasedAt(0), 100);
        Check.is("the second is given up", x.reportState(1), 1);
        Check.is("its frames stay", x.frames(0, 2), 3);
        Check.is("two contacts", x.figure(7), 2);
        Check.is("one report", x.figure(6), 1);
    }

    private static void patienceAtItsEdge() {
        PassLink x = impatient(49);
        x.advance(60);
        Check.is("48 minutes are not 49", x.reportState(0), 0);
        Check.is("nothing is given up", x.figure(7), 0);
        Check.is("nothing is sent again", x.figure(0), 2);
    }

    private static void framesOfContacts() {
        PassLink x = Scenes.steady(0, 2, 3);
        x.setLoss(0, 20);
        x.addRecord(2, 0);
        x.addRecord(5, 9);
        x.advance(1);
        Check.is("the more urgent first", x.contactFrames(0, 1, false), 7);
        Check.is("received of it", x.contactFrames(0, 1, true), 3);
        Check.is("nothing of the other", x.contactFrames(0, 0, false), 0);
        Check.is("total", x.contactTotal(0, false), 3);
        Check.is("received", x.contactTotal(0, true), 2);
        x.setLoss(0, 0);
        x.advance(1);
        Check.is("all of it", x.contactFrames(0, 1, false), 31);
        Check.is("received", x.contactFrames(0, 1, true), 27);
        Check.is("then the other", x.contactFrames(0, 0, true), 1);
        Check.is("total", x.contactTotal(0, false), 6);
        Check.is("received", x.contactTotal(0, true), 5);
        x.addRecord(1, 0);
        Check.is("a later record", x.contactFrames(0, 2, false), 0);
    }

    /** Given up, sent again and lost: the first report decides, the second changes nothing. */
    private static void lateReportAfterGivingUp() {
        PassLink x = impatient(48);
        x.advance(50);
        x.setSeed(1);
        x.setLoss(1, 99);
        x.advance(2);
        Check.is("both lost", x.contactTotal(1, true), 0);
        x.setLoss(1, 0);
        x.advance(49);
        Check.is("released by the first", x.releasedAt(0), 100);
        x.advance(51);
        Check.is("the second report", x.reportState(1), 2);
        Check.is("nothing to send", x.frames(0, 0), 0);
        Check.is("acknowledged", x.frames(0, 2), 3);
    }

    /** The node switches station 1 on and off, so that contacts pile up while station 0 is away. */
    private static PassLink flickering(int contacts) {
        PassLink x = new PassLink();
        x.setOrbit(200, 0, 0);
        x.addStation(0, 0, 1, 0, 2, 0);
        x.addStation(180, 0, 30, 0, 1, 0);
        x.setGroundDelay(999);
        x.setPatience(9999);
        x.addRecord(2, 0);
        x.advance(1);
        for (int n = 0; n < contacts; n++) {
            x.setOrbit(200, 0, 180);
            x.advance(1);
            x.setOrbit(200, 0, 90);
            x.advance(1 + (n % 14 == 13 ? 172 : 0));
        }
        return x;
    }

    private static void forgottenContacts() {
        PassLink x = flickering(59);
        Check.is("sixty are kept", x.contactCount(), 60);
        contactIs(x, 0, 0, 0, 1);
        Check.is("under way", x.frames(0, 1), 3);
        Check.is("its report is awaited", x.reportState(0), 0);
        Check.is("within the delay", x.time() - 1 < 999, true);
        x.setOrbit(200, 0, 180);
        x.advance(1);
        Check.is("sixty-one", x.contactCount(), 61);
        Check.is("forgotten", Check.thrownBy(x, l -> l.contactStation(0)), "IndexOutOfBoundsException");
        Check.is("forgotten", Check.thrownBy(x, l -> l.reportState(0)), "IndexOutOfBoundsException");
        Check.is("the next one is kept", x.contactBegin(1), 1);
        Check.is("to send again, one sent", x.frames(0, 0), 2);
        Check.is("in the new contact", x.sentIn(0, 0), 60);
        Check.is("the other stays", x.sentIn(0, 1), 0);
        Check.is("a duplicate", x.figure(2), 1);
        Check.is("not given up", x.figure(7), 0);
        Check.is("no kept contact with it", x.lastContact(0), -1);
        Check.is("but one there was", x.stationFigure(0, 0), 1);
        x.advance(1);
        x.setOrbit(200, 0, 0);
        x.setGroundDelay(0);
        x.advance(200);
        Check.is("released by the later report alone", x.releasedAt(0), 1000);
    }

    private static void manyContacts() {
        PassLink x = Scenes.steady(0, 1, 1);
        for (int n = 0; n < 5; n++) {
            x.advance(1400);
        }
        Check.is("so far", x.contactCount(), 70);
        Check.is("the oldest kept", x.contactBegin(10), 1000);
        Check.is("the youngest", x.contactBegin(69), 6900);
        for (int contact : new int[] {9, 70, -1, 0}) {
            Check.Call[] calls = {l -> l.contactStation(contact), l -> l.contactBegin(contact),
                l -> l.contactEnd(contact), l -> l.reportState(contact), l -> l.contactTotal(contact, true)};
            for (Check.Call call : calls) {
                Check.is("contact " + contact, Check.thrownBy(x, call), "IndexOutOfBoundsException");
            }
        }
        x.addRecord(1, 0);
        Check.is("forgotten", Check.thrownBy(x, l -> l.contactFrames(9, 0, false)), "IndexOutOfBoundsException");
        Check.is("kept", x.contactFrames(10, 0, false), 0);
    }

    private static void lastContact() {
        PassLink x = Scenes.steady(0, 2, 1, 50, 2, 1, 99 - 40, 2, 1);
        Check.is("none", x.lastContact(0), -1);
        x.advance(1);
        Check.is("the present one", x.lastContact(0), 0);
        Check.is("none yet", x.lastContact(1), -1);
        x.advance(59);
        Check.is("the one before", x.lastContact(0), 0);
        Check.is("the present one", x.lastContact(2), 2);
        x.advance(100);
        Check.is("a later one", x.lastContact(1), 4);
        for (int station : new int[] {-1, 2, Integer.MAX_VALUE}) {
            Check.refuses("station", IndexOutOfBoundsException.class, Scenes.BUSY, l -> l.lastContact(station));
        }
    }

    private static void wrongContacts() {
        Check.is("busy has two", Scenes.busy().contactCount(), 2);
        for (int contact : NO_CONTACT) {
            Check.Call[] calls = {l -> l.contactStation(contact), l -> l.contactBegin(contact),
                l -> l.contactEnd(contact), l -> l.reportState(contact), l -> l.contactFrames(contact, 0, true),
                l -> l.contactTotal(contact, false)};
            for (Check.Call call : calls) {
                Check.refuses("contact " + contact, IndexOutOfBoundsException.class, Scenes.BUSY, call);
            }
        }
        for (int record : new int[] {-1, 3, 40}) {
            Check.refuses("record", IndexOutOfBoundsException.class, Scenes.BUSY, l -> l.contactFrames(0, record, true));
        }
    }
}
