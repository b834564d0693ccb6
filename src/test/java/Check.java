import java.util.Objects;

/** Compares answers with those that are due, and counts the wrong ones. */
final class Check {
    interface Call {
        void on(PassLink link);
    }

    interface Scene {
        PassLink make();
    }

    private static int wrong = 0;
    /** What the present test is about, ahead of each of its messages. */
    private static String subject = "";

    private Check() {
    }

    static void about(String newSubject) {
        subject = newSubject;
    }

    static void is(String what, Object got, Object due) {
        if (!Objects.equals(got, due)) {
            wrong++;
            System.out.println(subject + what + " answered " + got + ", due is " + due);
        }
    }

    /** A call that is refused throws exactly this exception, and leaves all answers as they were. */
    static void refuses(String what, Class<? extends RuntimeException> due, Scene scene, Call call) {
        for (Look look : Look.values()) {
            PassLink link = scene.make();
            is(what, thrownBy(link, call), due.getSimpleName());
            is(what + ": behind it " + look, look.at(() -> link), look.atKnown(scene));
        }
    }

    /** Two objects answer alike, whatever is asked. */
    static void same(String what, Scene got, Scene due) {
        for (Look look : Look.values()) {
            is(what + ": " + look, look.at(got), look.at(due));
        }
    }

    static String thrownBy(PassLink link, Call call) {
        try {
            call.on(link);
            return "nothing";
        } catch (RuntimeException e) {
            return e.getClass().getSimpleName();
        }
    }

    /** Appends a text of any length, by whole words of four bytes and a cut. */
    static void append(PassLink link, String text, int lengthBefore) {
        for (int at = 0; at < text.length(); at += 4) {
            int four = 0;
            for (int k = 0; k < 4; k++) {
                four = four << 8 | (at + k < text.length() ? text.charAt(at + k) & 255 : ' ');
            }
            link.appendText(four);
        }
        link.truncateText(lengthBefore + text.length());
    }

    static int load(PassLink link, String text) {
        append(link, text, 0);
        return link.load();
    }

    static PassLink loaded(String text) {
        PassLink link = new PassLink();
        is("load of " + text, load(link, text) == PassLink.NONE, false);
        return link;
    }

    static void end() {
        if (wrong != 0) {
            System.out.println(wrong + " answers are not as due");
            System.exit(1);
        }
    }
}
