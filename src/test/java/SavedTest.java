/** Promises 62 and 63: saved states. */
public final class SavedTest {
    public static void main(String[] args) {
        everythingComesBack();
        theGeneratorComesBack();
        contactsComeBack();
        twoSlots();
        textAndErrorStay();
        wrongSlots();
        Check.end();
    }

    private static void everythingComesBack() {
        Check.same("state", SavedTest::changedAndBack, () -> {
            PassLink y = Scenes.busy();
            y.save(0);
            return y;
        });
    }

    private static PassLink changedAndBack() {
        PassLink x = Scenes.busy();
        x.save(0);
        x.setOrbit(77, 7, 7);
        x.setLoss(0, 1);
        x.addStation(5, 5, 5, 5, 5, 5);
        x.setGroundDelay(1);
        x.setPatience(1);
        x.setFresh(1, 1);
        x.setMemory(500);
        x.setPolicy(0);
        x.setSeed(9);
        x.setPriority(0, 7);
        x.addRecord(9, 9);
        x.advance(1000);
        x.restore(0);
        return x;
    }

    private static void theGeneratorComesBack() {
        PassLink x = Scenes.steady(0, 30, 1);
        x.setLoss(0, 50);
        x.addRecord(24, 0);
        x.advance(3);
        x.save(1);
        x.advance(20);
        int received = x.contactFrames(0, 0, true);
        x.restore(1);
        Check.is("time", x.time(), 3);
        x.advance(20);
        Check.is("the same draws", x.contactFrames(0, 0, true), received);
        x.restore(1);
        x.advance(20);
        Check.is("it stays saved", x.contactFrames(0, 0, true), received);
    }

    private static void contactsComeBack() {
        PassLink x = Scenes.steady(0, 1, 1, 50, 1, 1);
        x.addRecord(2, 0);
        x.advance(51);
        x.save(0);
        for (int n = 0; n < 5; n++) {
            x.advance(1440);
        }
        Check.is("forgotten", Check.thrownBy(x, l -> l.contactBegin(0)), "IndexOutOfBoundsException");
        x.restore(0);
        Check.is("back", x.contactBegin(0), 0);
        Check.is("its end", x.contactEnd(0), 1);
        Check.is("its frames", x.contactFrames(0, 0, false), 1);
        Check.is("the present one", x.presentStation(), 1);
        Check.is("count", x.contactCount(), 2);
        Check.is("not given", x.reportState(0), 0);
        Check.is("sent in", x.sentIn(0, 1), 1);
    }

    private static void twoSlots() {
        PassLink x = new PassLink();
        x.advance(1);
        x.save(0);
        x.advance(1);
        x.save(1);
        x.advance(1);
        x.restore(0);
        Check.is("slot 0", x.time(), 1);
        x.restore(1);
        Check.is("slot 1", x.time(), 2);
        x.advance(5);
        x.save(0);
        x.restore(1);
        x.restore(0);
        Check.is("replaced", x.time(), 7);
    }

    private static void textAndErrorStay() {
        PassLink x = new PassLink();
        Check.load(x, "ground;");
        Check.append(x, "abcd", 0);
        x.save(0);
        x.truncateText(2);
        x.restore(0);
        Check.is("the text is no part of it", Check.thrownBy(x, l -> l.truncateText(3)), "IllegalArgumentException");
        Check.is("its length", x.truncateText(2), 2);
        Check.is("the error", x.errorCode(), 1);
        Check.is("its position", x.errorPosition(), 6);
        x.truncateText(0);
        x.load();
        x.restore(0);
        Check.is("no error", x.errorCode(), 0);
        Check.is("saved states stay with a load", x.time(), 0);
    }

    private static void wrongSlots() {
        for (int slot : new int[] {-1, 2, Integer.MIN_VALUE, Integer.MAX_VALUE}) {
            Check.refuses("save", IllegalArgumentException.class, Scenes.BUSY, l -> l.save(slot));
            Check.refuses("restore", IllegalArgumentException.class, Scenes.BUSY, l -> l.restore(slot));
        }
        Check.refuses("nothing is saved", IllegalStateException.class, Scenes.BUSY, l -> l.restore(0));
    }
}
