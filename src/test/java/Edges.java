import java.util.ArrayList;
import java.util.List;

/** Tests of single sentences: each quotes the sentence of the document that it would fail without. */
final class Edges {
    interface Numbered {
        void on(PassLink link, int value);
    }

    static final Class<IllegalArgumentException> ARGUMENT = IllegalArgumentException.class;
    static final Class<IllegalStateException> STATE = IllegalStateException.class;
    static final Class<IndexOutOfBoundsException> INDEX = IndexOutOfBoundsException.class;

    private static final Document DOCUMENT = new Document();
    private static int section = Document.TERMS;

    private Edges() {
    }

    static void terms() {
        section = Document.TERMS;
    }

    static void promise(int number) {
        section = number;
    }

    /** Runs the test of a sentence of the present section. */
    static void holds(String sentence, Runnable test) {
        Check.about((section == Document.TERMS ? "terms" : "promise " + section) + ", '" + sentence + "': ");
        Check.is("the document", DOCUMENT.quote(section, sentence), true);
        try {
            test.run();
        } catch (RuntimeException e) {
            Check.is("the test", e, "no exception");
        }
        Check.about("");
    }

    /** The ends of a range are taken, and what lies beyond them is refused and changes nothing. */
    static void limits(String sentence, Class<? extends RuntimeException> due, int low, int high, Numbered call,
            Check.Scene... scenes) {
        holds(sentence, () -> {
            for (Check.Scene scene : scenes) {
                if (low <= high) {
                    Check.is("the least, " + low, Check.thrownBy(scene.make(), l -> call.on(l, low)), "nothing");
                    Check.is("the greatest, " + high, Check.thrownBy(scene.make(), l -> call.on(l, high)), "nothing");
                }
                for (int value : beyond(low, high)) {
                    Check.refuses("the number " + value, due, scene, l -> call.on(l, value));
                }
            }
        });
    }

    static List<Integer> beyond(int low, int high) {
        List<Integer> values = new ArrayList<>(List.of(low - 1, Integer.MIN_VALUE));
        if (high < Integer.MAX_VALUE) {
            values.add(high + 1);
            values.add(Integer.MAX_VALUE);
        }
        return values;
    }

    /** Each call is refused in each scene, and changes nothing. */
    static void refuses(Class<? extends RuntimeException> due, Check.Call call, Check.Scene... scenes) {
        for (Check.Scene scene : scenes) {
            Check.refuses("the call", due, scene, call);
        }
    }

    static void everythingIsQuoted() {
        Check.is("sections of the document", DOCUMENT.size(), 64);
        Check.is("what no test quotes", String.join("\n", DOCUMENT.unquoted()), "");
    }
}
