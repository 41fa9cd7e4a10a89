import java.util.ArrayList;
import java.util.List;
import java.util.function.Supplier;

/** What the tests of edges share: sentences of the document, answers that are due, states, calls that change nothing. */
final class Check {
    static final int LOW = Integer.MIN_VALUE, HIGH = Integer.MAX_VALUE;
    static final int BAD = -1, STATE = -2, FULL = -3, LACKING = -5, NONE = -9, NO = -1000000;

    /** A call on an object, with its answer. */
    interface Call {
        long of(PavedBan x);
    }

    static Doc doc;
    static int asked = 0;
    static int wrong = 0;
    private static String sentence = "";

    private Check() { }

    // ---- sentences

    /** What follows tests this sentence of the terms. */
    static void terms(String words) {
        quote("Terms", words);
    }

    /** What follows tests this sentence of a promise. */
    static void promise(int number, String words) {
        quote("Promise " + number, words);
    }

    static void quote(String section, String words) {
        sentence = section + ", \"" + words + "\"";
        if (!doc.quote(section, words)) {
            fail("the document does not have these words");
        }
    }

    static void fail(String what) {
        wrong++;
        System.out.println(sentence + ": " + what);
    }

    static void due(String what, long got, long want) {
        asked++;
        if (got != want) {
            fail(what + " answered " + got + ", due is " + want);
        }
    }

    // ---- texts

    static void typeAll(PavedBan x, String text) {
        for (int from = 0; from < text.length(); from += 8) {
            String part = text.substring(from, Math.min(from + 8, text.length()));
            x.type(number(part), part.length());
        }
    }

    /** The bytes of a text, the first of them the highest. */
    static long number(String part) {
        long v = 0;
        for (int i = 0; i < part.length(); i++) {
            v = v << 8 | part.charAt(i);
        }
        return v;
    }

    static PavedBan of(String text) {
        PavedBan x = new PavedBan();
        typeAll(x, text);
        if (x.town() < 0) {
            fail("a test's own text is refused: " + text);
        }
        return x;
    }

    /** The text is read, and has so many items; the object is handed on. */
    static PavedBan good(String text, int items) {
        PavedBan x = small();
        x.clear();
        typeAll(x, text);
        due("town of '" + text + "'", x.town(), items);
        due("bytes behind '" + text + "'", x.count(5), 0);
        return x;
    }

    /** The text has its fault there, and town() changes nothing, the text neither. */
    static void fault(String text, int place) {
        refusedIn(() -> {
            PavedBan x = small();
            x.clear();
            typeAll(x, text);
            due("bytes of '" + text + "'", x.count(5), text.length());
            return x;
        }, "town of '" + text + "'", PavedBan::town, -10 - place);
    }

    static String signs(char sign, int many) {
        return String.valueOf(sign).repeat(many);
    }

    // ---- states

    /** Three pieces, two families, something of all, room for more of all; image 1 was not kept. */
    static PavedBan small() {
        PavedBan x = of("piece 0 1 5;piece 1 2 4;piece 0 2 30;family 0 2 3;family 1 0 2;paved 0 0;stone 1;flood 2 4;");
        x.saw(0, 4);
        x.keep(0);
        x.stone(1, 0);
        x.pave(1, 1);
        x.flood(0, 9);
        x.saw(1, 1);
        x.mark(3, 1);
        typeAll(x, "family 1 2 3;piece 2 1 9;stone 0;");
        return x;
    }

    /** As many pieces, families, seen, images and bytes as there may be. */
    static PavedBan full() {
        PavedBan x = of("piece 0 1 5;piece 1 2 5;piece 2 3 6;piece 3 0 4;piece 0 2 9;piece 2 4 3;piece 4 5 30;piece 1 5 7;"
            + "family 0 4 2;family 1 3 1;family 5 5 9;family 3 5 4;"
            + "paved 0 0;paved 2 1;paved 5 2;paved 3 3;stone 4;flood 6 9;flood 1 3;");
        x.saw(2, 1);
        x.saw(3, 3);
        x.keep(0);
        x.pave(7, 3);
        x.stone(5, 1);
        for (int i = 3; i <= 10; i++) {
            x.saw(i % 4, 1 << i % 8);
        }
        x.keep(1);
        x.free(7);
        x.flood(0, 1);
        x.mark(5, 0);
        typeAll(x, "piece 0 1 1;".repeat(8) + "family 0 1 1;".repeat(4) + "paved 7 3;".repeat(15) + "  ");
        return x;
    }

    private static final List<Supplier<PavedBan>> STATES = List.of(PavedBan::new, Check::small, Check::full);

    // ---- calls that change nothing

    /** In every state a call answers BAD, and nothing changes. */
    static void bad(String what, Call call) {
        refused(what, call, BAD);
    }

    /** In every state a call answers this, and nothing changes. */
    static void refused(String what, Call call, long answer) {
        for (Supplier<PavedBan> state : STATES) {
            refusedIn(state, what, call, answer);
        }
    }

    /** In this state a call answers this, and nothing changes. */
    static void refusedIn(Supplier<PavedBan> state, String what, Call call, long answer) {
        PavedBan x = state.get();
        due(what, call.of(x), answer);
        same(what, x, state.get());
    }

    /** In every state a call changes nothing, whatever it answers. */
    static void changesNothing(String what, Call call) {
        for (Supplier<PavedBan> state : STATES) {
            PavedBan x = state.get();
            call.of(x);
            same(what, x, state.get());
        }
    }

    /** All that can be asked of two objects is answered alike; they can't be used any more then. */
    static void same(String what, PavedBan x, PavedBan other) {
        asked++;
        List<Long> got = everything(x);
        List<Long> want = everything(other);
        if (!got.equals(want)) {
            fail(what + " changed something: " + got + ", due is " + want);
        }
    }

    /** Some 250 answers: now, by both images, by the text that was typed. */
    private static List<Long> everything(PavedBan x) {
        List<Long> list = new ArrayList<>();
        now(x, list);
        told(x, list);
        for (int image = 0; image < 2; image++) {
            list.add((long) x.back(image));
            now(x, list);
        }
        list.add((long) x.town());
        now(x, list);
        told(x, list);
        list.add((long) x.clear());
        return list;
    }

    private static void now(PavedBan x, List<Long> list) {
        for (int p = 0; p < 8; p++) {
            for (int what = 3; what < 6; what++) {
                list.add((long) x.piece(p, what));
            }
            list.add((long) x.who(p));
        }
        for (int what = 2; what < 6; what++) {
            list.add((long) x.count(what));
        }
        list.add((long) x.fits());
        list.add(x.trace());
    }

    private static void told(PavedBan x, List<Long> list) {
        for (int p = 0; p < 8; p++) {
            for (int what = 0; what < 3; what++) {
                list.add((long) x.piece(p, what));
            }
        }
        for (int f = 0; f < 4; f++) {
            for (int what = 0; what < 4; what++) {
                list.add((long) x.family(f, what));
            }
            list.add((long) x.way(f));
        }
    }
}
