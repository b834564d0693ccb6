/** What an object answers, as one text, in fewer than 512 calls. */
final class View {
    private View() {
    }

    /** Uses the object up: the hidden parts (text, generator) are looked at by using them. */
    static String of(PassLink link) {
        StringBuilder view = new StringBuilder();
        rules(link, view);
        stations(link, view);
        records(link, view);
        contacts(link, view);
        view.append(" figures");
        for (int what = 0; what < 8; what++) {
            view.append(' ').append(link.figure(what));
        }
        view.append(' ').append(link.handovers());
        view.append(" error ").append(link.errorCode()).append(' ').append(link.errorPosition());
        future(link, view);
        slots(link, view);
        return view.toString();
    }

    private static void rules(PassLink link, StringBuilder view) {
        view.append("time ").append(link.time());
        view.append(" delay ").append(link.setGroundDelay(60));
        view.append(" patience ").append(link.setPatience(1000));
        view.append(" fresh ").append(link.setFresh(30, 5));
        view.append(" policy ").append(link.setPolicy(0));
        view.append(" memory ").append(link.setMemory(960));
        view.append(" in use ").append(link.memoryInUse());
    }

    private static void stations(PassLink link, StringBuilder view) {
        view.append(" stations ").append(link.stationCount());
        for (int station = 0; station < link.stationCount(); station++) {
            view.append(' ').append(link.nextPass(station, 0)).append(' ').append(link.passEnd(station, 0));
            view.append(' ').append(link.passFrames(station, 0)).append(' ').append(link.passFrames(station, 3));
            for (int what = 0; what < 5; what++) {
                view.append(' ').append(link.stationFigure(station, what));
            }
        }
    }

    private static void records(PassLink link, StringBuilder view) {
        view.append(" records ").append(link.recordCount());
        for (int record = 0; record < Math.min(4, link.recordCount()); record++) {
            for (int state = 0; state < 4; state++) {
                view.append(' ').append(link.frames(record, state));
            }
            view.append(' ').append(link.urgency(record)).append(' ').append(link.sentIn(record, 0));
            view.append(' ').append(link.deliveredAt(record)).append(' ').append(link.releasedAt(record));
        }
    }

    private static void contacts(PassLink link, StringBuilder view) {
        int count = link.contactCount();
        view.append(" contacts ").append(count).append(' ').append(link.presentStation());
        for (int contact = Math.max(0, count - 4); contact < count; contact++) {
            view.append(' ').append(link.contactStation(contact)).append(' ').append(link.contactBegin(contact));
            view.append(' ').append(link.contactEnd(contact)).append(' ').append(link.reportState(contact));
            view.append(' ').append(link.contactTotal(contact, false)).append(' ').append(link.contactTotal(contact, true));
        }
    }

    /** The orbit's period, and what the generator and the losses make of a record to come. */
    private static void future(PassLink link, StringBuilder view) {
        view.append(" period ").append(link.setOrbit(90, 0, 0));
        if (link.stationCount() < 4) {
            link.addStation(0, 90, 30, 0, 20, 50);
        }
        if (link.recordCount() < 40) {
            link.addRecord(24, 9);
        }
        if (link.time() < 18000) {
            link.advance(200);
        }
        view.append(" archived then ").append(link.figure(3)).append(" lost then ").append(link.figure(1));
    }

    private static void slots(PassLink link, StringBuilder view) {
        for (int slot = 0; slot < 2; slot++) {
            try {
                link.restore(slot);
                view.append(" slot at ").append(link.time());
            } catch (IllegalStateException e) {
                view.append(" no slot");
            }
        }
        view.append(" text ").append(textLength(link));
    }

    private static int textLength(PassLink link) {
        for (int length = 400; length > 0; length -= 2) {
            try {
                return link.truncateText(length);
            } catch (IllegalArgumentException e) {
                // The text is shorter.
            }
        }
        return 0;
    }
}
