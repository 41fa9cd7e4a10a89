/** For each promise: ordinary inputs, the edges that the document names, wrong inputs. */
public final class PromisesTest {
    private static final int LOW = Integer.MIN_VALUE, HIGH = Integer.MAX_VALUE;
    private static final int BAD = -1, STATE = -2, FULL = -3, NONE = -9, NO = -1000000;

    /** A square 0 1 2 3 with a diagonal 0 2, and a tail 2 4. */
    private static final String SQUARE = "piece 0 1 5;piece 1 2 5;piece 2 3 6;piece 3 0 4;piece 0 2 9;piece 2 4 3;"
        + "family 0 4 2;family 1 3 1;family 4 4 9;";

    private static int wrong = 0;
    private static int asked = 0;
    private static int promise = 0;

    private static void due(String what, long got, long want) {
        asked++;
        if (got != want) {
            wrong++;
            System.out.println("promise " + promise + ": " + what + " answered " + got + ", due is " + want);
        }
    }

    private static void typeAll(PavedBan x, String text) {
        for (int from = 0; from < text.length(); from += 8) {
            String part = text.substring(from, Math.min(from + 8, text.length()));
            long v = 0;
            for (int i = 0; i < part.length(); i++) {
                v = v << 8 | part.charAt(i);
            }
            x.type(v, part.length());
        }
    }

    private static int read(PavedBan x, String text) {
        x.clear();
        typeAll(x, text);
        return x.town();
    }

    private static PavedBan of(String text) {
        PavedBan x = new PavedBan();
        if (read(x, text) < 0) {
            due("a test's own text is refused: " + text, 1, 0);
        }
        return x;
    }

    private static void fault(String text, int place) {
        due("fault of '" + text + "'", read(new PavedBan(), text), -10 - place);
    }

    private static void newObject() {
        PavedBan x = new PavedBan();
        for (int what = 0; what < 6; what++) {
            due("count " + what, x.count(what), 0);
        }
        due("judge 0", x.judge(0), 0);
        due("judge 1", x.judge(1), 0);
        due("judge 2", x.judge(2), 0);
        due("one", x.one(0, -1), 0);
        due("one longest", x.one(1, -1), 0);
        due("all", x.all(-1), 0);
        due("change", x.change(), NONE);
        due("rest", x.rest(), 0);
        due("always", x.always(), 0);
        due("fits", x.fits(), 1);
        due("trace", x.trace(), 0);
        due("back 0", x.back(0), STATE);
        due("keep 0", x.keep(0), 0);
        due("back 0", x.back(0), 0);
        due("town", x.town(), 0);
    }

    private static void typing() {
        PavedBan x = new PavedBan();
        due("n 0", x.type(1, 0), BAD);
        due("n 9", x.type(1, 9), BAD);
        due("n low", x.type(1, LOW), BAD);
        due("n high", x.type(1, HIGH), BAD);
        due("count", x.count(5), 0);
        for (int i = 1; i <= 37; i++) {
            due("type 8", x.type(-1L, 8), 8 * i);
        }
        due("296 and 5", x.type(-1L, 5), FULL);
        due("296 and 8", x.type(-1L, 8), FULL);
        due("296 and 9", x.type(-1L, 9), BAD);
        due("296 and 4", x.type(-1L, 4), 300);
        due("300 and 1", x.type(-1L, 1), FULL);
        due("300 and 0", x.type(-1L, 0), BAD);
        due("count", x.count(5), 300);
        due("clear", x.clear(), 300);
        // Only the lowest bytes come, the highest of them first.
        due("above them", x.type(0x5A5A20203BL, 3), 3);
        due("town", x.town(), -12);
    }

    private static void clearing() {
        PavedBan x = of(SQUARE);
        due("empty", x.clear(), 0);
        typeAll(x, "piece 0");
        due("clear", x.clear(), 7);
        due("clear again", x.clear(), 0);
        due("pieces stay", x.count(0), 6);
        due("town of nothing", x.town(), 0);
        due("no pieces", x.count(0), 0);
    }

    private static void reading() {
        due("items", read(new PavedBan(), SQUARE), 9);
        due("blanks", read(new PavedBan(), "   piece  0 1 30 ;   family 5 5 9 ; flood 0 9;  "), 3);
        due("only blanks", read(new PavedBan(), "     "), 0);
        due("no blanks", read(new PavedBan(), "piece0 1 1;stone0;"), 2);
        fault("piece", 5);
        fault("piece  ", 7);
        fault("piece 0 1 1", 11);
        fault("piece 0 1 1 ", 12);
        fault("piece 0 1 ;", 10);
        fault("piece 0 1 1 1;", 12);
        fault("piece 6 1 1;", 6);
        fault("piece 5 6 1;", 8);
        fault("piece 3 3 1;", 8);
        fault("piece 0 1 0;", 10);
        fault("piece 0 1 31;", 10);
        fault("piece 0 1 100;", 10);
        fault("piece 0 1 01;", 10);
        fault("piece 00 1 1;", 6);
        fault("piece 4294967296 1 1;", 6);
        fault("piece piece 1 1;", 6);
        fault("family 0 6 1;", 9);
        fault("family 0 0 0;", 11);
        fault("family 0 0 10;", 11);
        fault("; piece 0 1 1;", 0);
        fault("5", 0);
        fault("pieces 0 1 1;", 0);
        fault("piec", 0);
        fault("piecez 0 1 1;", 0);
        fault("Piece 0 1 1;", 0);
        fault("piecE 0 1 1;", 0);
        fault("pieceE 0 1 1;", 5);
        fault("piece 0 1 1;\tstone 0;", 12);
        fault("piece 0 1 1\n;", 11);
        fault("piece -1 1 1;", 6);
        fault(" " + (char) 200, 1);
        fault("" + (char) 0, 0);
        fault("paved 0 0;piece 0 1 1;family 0 1 1;", 6);
        fault("piece 0 1 1;paved 0 0;", 20);
        fault("piece 0 1 1;family 0 1 1;paved 1 0;", 31);
        fault("piece 0 1 1;family 0 1 1;paved 0 1;", 33);
        fault("piece 0 1 1;stone 1;", 18);
        fault("piece 0 1 1;stone 0 0;", 20);
        fault("piece 0 1 1;flood 1 0;", 18);
        fault("piece 0 1 1;flood 0 10;", 20);
        fault("piece 0 1 1;".repeat(9), 96);
        fault("family 0 1 1;".repeat(5), 52);
        due("eight pieces", read(new PavedBan(), "piece 0 1 1;".repeat(8)), 8);
        due("four families", read(new PavedBan(), "family 0 1 1;".repeat(4)), 4);
        readingAnew();
    }

    private static void readingAnew() {
        PavedBan x = of(SQUARE);
        x.pave(0, 0);
        x.stone(1, 1);
        x.flood(2, 3);
        x.saw(0, 1);
        x.keep(0);
        x.mark(5, 0);
        typeAll(x, "piece 0 1 1;oh");
        due("fault", x.town(), -22);
        due("text stays", x.count(5), 14);
        due("pieces stay", x.count(0), 6);
        due("owner stays", x.piece(0, 3), 0);
        due("stone stays", x.piece(1, 4), 1);
        due("flood stays", x.piece(2, 5), 3);
        due("seen stays", x.count(4), 1);
        due("image stays", x.back(0), 1);
        due("way stays", x.way(1), 9);
        x.clear();
        due("shorter", read(x, "piece 0 1 1;family 1 0 3;family 0 1 1;paved 0 0;flood 0 2;stone 0;paved 0 1;flood 0 7;"), 8);
        due("text is empty", x.count(5), 0);
        due("pieces", x.count(0), 1);
        due("families", x.count(1), 2);
        due("owner", x.piece(0, 3), 1);
        due("no stone", x.piece(0, 4), 0);
        due("flood", x.piece(0, 5), 7);
        due("nothing seen", x.count(4), 0);
        due("image is gone", x.back(0), STATE);
        due("way", x.way(0), 1);
        due("cut off", x.way(1), NONE);
        due("trace stays", x.trace(), 100001);
        due("stone told later", read(x, "piece 0 1 1;family 1 0 3;paved 0 0;stone 0;"), 4);
        due("stone", x.piece(0, 4), 1);
        due("nobody's", x.piece(0, 3), NONE);
        due("flood at first", x.piece(0, 5), 0);
    }

    private static void pieces() {
        PavedBan x = of("piece 5 0 30;piece 1 4 7;family 0 1 1;paved 1 0;stone 0;flood 1 9;");
        int[][] want = {{5, 0, 30, NONE, 1, 0}, {1, 4, 7, 0, 0, 9}};
        for (int p = 0; p < 2; p++) {
            for (int what = 0; what < 6; what++) {
                due("piece " + p + " " + what, x.piece(p, what), want[p][what]);
            }
        }
        int[][] bad = {{-1, 0}, {2, 0}, {8, 0}, {LOW, 0}, {HIGH, 0}, {0, -1}, {0, 6}, {0, LOW}, {0, HIGH}};
        for (int[] b : bad) {
            due("piece " + b[0] + " " + b[1], x.piece(b[0], b[1]), BAD);
        }
    }

    private static void families() {
        PavedBan x = of("piece 0 1 1;piece 0 1 1;family 5 2 9;family 3 3 1;paved 0 0;paved 1 0;");
        int[][] want = {{5, 2, 9, 2}, {3, 3, 1, 0}};
        for (int f = 0; f < 2; f++) {
            for (int what = 0; what < 4; what++) {
                due("family " + f + " " + what, x.family(f, what), want[f][what]);
            }
        }
        int[][] bad = {{-1, 0}, {2, 0}, {4, 0}, {LOW, 0}, {HIGH, 0}, {0, -1}, {0, 4}, {0, LOW}, {0, HIGH}};
        for (int[] b : bad) {
            due("family " + b[0] + " " + b[1], x.family(b[0], b[1]), BAD);
        }
    }

    private static void paving() {
        PavedBan x = of(SQUARE);
        due("pave", x.pave(0, 2), NONE);
        due("by another", x.pave(0, 1), 2);
        due("by the same", x.pave(0, 1), 1);
        due("owner", x.piece(0, 3), 1);
        due("stone", x.stone(5, 1), 0);
        due("a stone", x.pave(5, 0), STATE);
        due("nobody's", x.piece(5, 3), NONE);
        due("a stone by none such", x.pave(5, 3), BAD);
        int[][] bad = {{-1, 0}, {6, 0}, {0, -1}, {0, 3}, {LOW, 0}, {0, HIGH}, {HIGH, LOW}};
        for (int[] b : bad) {
            due("pave " + b[0] + " " + b[1], x.pave(b[0], b[1]), BAD);
        }
        due("owned", x.count(2), 1);
    }

    private static void freeing() {
        PavedBan x = of(SQUARE);
        due("none", x.free(3), STATE);
        x.pave(3, 1);
        due("free", x.free(3), 1);
        due("nobody's", x.piece(3, 3), NONE);
        due("again", x.free(3), STATE);
        x.stone(2, 1);
        due("a stone", x.free(2), STATE);
        due("low", x.free(-1), BAD);
        due("high", x.free(6), BAD);
        due("lowest", x.free(LOW), BAD);
        due("highest", x.free(HIGH), BAD);
    }

    private static void stones() {
        PavedBan x = of(SQUARE);
        x.pave(1, 0);
        due("no stone yet", x.stone(1, 0), 0);
        due("its owner stays", x.piece(1, 3), 0);
        due("becomes one", x.stone(1, 1), 0);
        due("nobody's", x.piece(1, 3), NONE);
        due("one already", x.stone(1, 1), 1);
        due("count", x.count(3), 1);
        due("none again", x.stone(1, 0), 1);
        due("still nobody's", x.piece(1, 3), NONE);
        due("pave", x.pave(1, 2), NONE);
        int[][] bad = {{-1, 0}, {6, 1}, {0, -1}, {0, 2}, {LOW, 0}, {HIGH, 0}, {0, LOW}, {0, HIGH}};
        for (int[] b : bad) {
            due("stone " + b[0] + " " + b[1], x.stone(b[0], b[1]), BAD);
        }
        due("count", x.count(3), 0);
    }

    private static void flooding() {
        PavedBan x = of(SQUARE);
        due("at first", x.flood(2, 9), 0);
        due("then", x.flood(2, 0), 9);
        due("then", x.flood(2, 4), 0);
        x.stone(2, 1);
        due("a stone's", x.flood(2, 5), 4);
        int[][] bad = {{-1, 0}, {6, 1}, {2, -1}, {2, 10}, {LOW, 0}, {HIGH, 0}, {2, LOW}, {2, HIGH}};
        for (int[] b : bad) {
            due("flood " + b[0] + " " + b[1], x.flood(b[0], b[1]), BAD);
        }
        due("stays", x.piece(2, 5), 5);
    }

    private static void waysOfFamilies() {
        PavedBan x = of(SQUARE);
        due("by the diagonal", x.way(0), 12);
        due("round", x.way(1), 9);
        due("is there", x.way(2), 0);
        x.pave(4, 0);
        due("not the diagonal", x.way(0), 13);
        x.pave(4, 1);
        due("another's diagonal", x.way(0), 12);
        x.pave(5, 0);
        due("no tail", x.way(0), NONE);
        x.stone(5, 1);
        due("a stone", x.way(0), 12);
        for (int f : new int[] {-1, 3, 4, LOW, HIGH}) {
            due("way " + f, x.way(f), BAD);
        }
        due("the longest there is", of("piece 0 1 30;piece 1 2 30;piece 2 3 30;piece 3 4 30;piece 4 5 30;family 5 0 9;").way(0), 150);
    }

    private static void placesOfWays() {
        // As many yards: fewer pieces go ahead of lower places.
        PavedBan x = of("piece 0 1 1;piece 1 2 1;piece 2 5 1;piece 0 4 1;piece 4 5 2;family 0 5 1;family 5 0 1;family 3 3 1;family 3 0 1;");
        int[] want = {0, 4, 5, -5, -5};
        for (int i = 0; i < want.length; i++) {
            due("fewer pieces, " + i, x.place(0, i), want[i]);
        }
        due("back", x.place(1, 1), 4);
        due("is there", x.place(2, 0), 3);
        due("is there", x.place(2, 1), -5);
        due("cut off", x.place(3, 0), NONE);
        due("cut off, far on", x.place(3, HIGH), NONE);
        due("far on", x.place(0, HIGH), -5);
        // As many pieces: the first by places, told in any order.
        PavedBan y = of("piece 4 5 1;piece 4 0 1;piece 5 3 1;piece 3 0 1;piece 0 1 1;piece 2 5 9;piece 1 5 2;family 0 5 1;family 5 0 1;");
        due("first by places", y.place(0, 1), 3);
        due("first by places, back", y.place(1, 1), 3);
        y.pave(3, 0);
        due("not by an own one", y.place(0, 1), 4);
        due("the other as before", y.place(1, 1), 3);
        for (int[] b : new int[][] {{-1, 0}, {4, 0}, {0, -1}, {0, LOW}, {LOW, 0}, {HIGH, 0}, {3, -1}}) {
            due("place " + b[0] + " " + b[1], x.place(b[0], b[1]), BAD);
        }
    }

    private static void poles() {
        PavedBan x = of("piece 0 1 4;piece 1 2 7;piece 0 2 30;family 0 2 1;family 2 0 1;paved 0 0;paved 1 0;");
        due("too short a pole", x.pole(0, 6), 30);
        due("long enough", x.pole(0, 7), 11);
        due("none", x.pole(0, 0), 30);
        due("the other", x.pole(1, 0), 11);
        x.pave(2, 0);
        due("cut off", x.pole(0, 4), NONE);
        due("over some", x.pole(0, 7), 11);
        x.flood(0, 9);
        x.stone(1, 1);
        due("a stone needs none", x.pole(0, 4), 11);
        due("a stone needs none", x.pole(0, 3), NONE);
        due("by all", x.pole(0, 30), 11);
        due("the way stays", x.way(0), NONE);
        for (int[] b : new int[][] {{-1, 0}, {2, 0}, {0, -1}, {0, 31}, {LOW, 0}, {HIGH, 0}, {0, LOW}, {0, HIGH}}) {
            due("pole " + b[0] + " " + b[1], x.pole(b[0], b[1]), BAD);
        }
    }

    private static void judging() {
        PavedBan x = of(SQUARE);
        due("costs", x.judge(0), 12 * 2 + 9);
        due("longest", x.judge(1), 12);
        due("cut off", x.judge(2), 0);
        x.pave(5, 0);
        due("costs", x.judge(0), NONE);
        due("longest", x.judge(1), NONE);
        due("cut off", x.judge(2), 1);
        x.pave(3, 1);
        x.pave(2, 1);
        due("cut off", x.judge(2), 3);
        for (int what : new int[] {-1, 3, LOW, HIGH}) {
            due("judge " + what, x.judge(what), BAD);
        }
    }

    private static void oneEach() {
        // Two ways from 0 to 1: 2 yards or 3; each family must leave itself one.
        PavedBan x = of("piece 0 1 2;piece 0 1 3;family 0 1 1;family 1 0 5;");
        due("costs", x.one(0, -1), 3 + 2 * 5);
        due("the dear one takes the long", x.one(0, 1), 1);
        due("the other the short", x.one(0, 0), 0);
        due("longest", x.one(1, -1), 3);
        due("first by pieces", x.one(1, 0), 0);
        due("then", x.one(1, 1), 1);
        x.pave(0, 0);
        x.pave(1, 0);
        due("owners are not asked", x.one(0, -1), 13);
        due("nothing is changed", x.piece(1, 3), 0);
        x.stone(1, 1);
        due("too few", x.one(0, -1), NONE);
        due("too few", x.one(0, 0), NONE);
        due("too few", x.one(1, 1), NONE);
        for (int[] b : new int[][] {{-1, 0}, {2, 0}, {0, -2}, {0, 2}, {2, -1}, {LOW, 0}, {HIGH, 0}, {0, LOW}, {1, HIGH}}) {
            due("one " + b[0] + " " + b[1], x.one(b[0], b[1]), BAD);
        }
        // Less added and a shorter longest want other pieces: 1 has the choice of who goes round.
        PavedBan y = of("piece 0 1 1;piece 0 1 4;piece 2 3 2;piece 2 3 4;stone 1;family 0 1 9;family 2 3 1;");
        due("costs", y.one(0, -1), 9 + 2);
        due("first", y.one(0, 0), 2);
        due("second", y.one(0, 1), 0);
        due("longest", y.one(1, -1), 2);
    }

    private static void allPaved() {
        PavedBan x = of("piece 0 1 2;piece 0 1 3;piece 1 2 1;family 0 1 1;family 1 0 5;");
        due("costs", x.all(-1), 3 + 2 * 5);
        due("owner 0", x.all(0), 0);
        due("owner 1", x.all(1), 1);
        due("owner 2", x.all(2), 0);
        x.pave(0, 1);
        due("owners are not asked", x.all(0), 0);
        due("nothing is changed", x.piece(0, 3), 1);
        x.stone(0, 1);
        due("by a stone", x.all(-1), 2 + 2 * 5);
        due("the stone", x.all(0), -5);
        due("first by owners", x.all(1), 0);
        due("first by owners", x.all(2), 0);
        for (int p : new int[] {-2, 3, 8, LOW, HIGH}) {
            due("all " + p, x.all(p), BAD);
        }
        PavedBan y = of("piece 0 1 2;piece 1 2 2;family 0 2 1;stone 1;");
        due("the only one must pave its way", y.all(-1), NONE);
        due("no owner then", y.all(0), NONE);
        PavedBan z = of("piece 0 1 2;");
        due("nobody is there to pave", z.all(-1), NONE);
        due("nor who", z.all(0), NONE);
        z.stone(0, 1);
        due("nothing to pave", z.all(-1), 0);
        due("a stone", z.all(0), -5);
        due("none has where to go", of("family 0 1 1;").all(-1), NONE);
        due("all at home", of("piece 0 1 1;family 0 0 1;").all(-1), 0);
    }

    /** Two families that each own the short one of the other's ways. */
    private static final String CROSSED = "piece 0 1 1;piece 0 1 5;piece 2 3 1;piece 2 3 5;family 0 1 1;family 2 3 1;paved 0 0;paved 2 1;";

    private static void changing() {
        PavedBan x = of(CROSSED);
        due("both gain", x.change(), 2);
        due("nothing is changed", x.change(), 2);
        x.pave(1, 0);
        due("who was cut off gains", x.change(), 2);
        x.pave(3, 1);
        due("the first", x.change(), 2);
        x.free(2);
        due("one would not gain", x.change(), NONE);
        x.free(3);
        due("nobody to exchange with", x.change(), NONE);
        x.pave(2, 0);
        due("one owner", x.change(), NONE);
        PavedBan y = of("piece 0 1 1;piece 0 1 1;family 0 1 1;family 0 1 1;paved 0 0;paved 1 1;");
        due("none gains", y.change(), NONE);
        due("none gains", y.rest(), 0);
        PavedBan z = of("piece 0 1 1;piece 2 3 1;family 0 4 1;family 2 4 1;paved 0 0;paved 1 1;");
        due("both stay cut off", z.change(), NONE);
    }

    private static void resting() {
        PavedBan x = of(CROSSED);
        due("one", x.rest(), 1);
        due("nothing is changed", x.rest(), 1);
        due("owner", x.piece(0, 3), 0);
        // Own 0 and 1 (all ways), the other 2 and 3: two changes, one behind another.
        PavedBan y = of("piece 0 1 1;piece 0 1 5;piece 2 3 1;piece 2 3 5;piece 0 1 9;piece 2 3 9;family 0 1 1;family 2 3 1;"
            + "paved 0 0;paved 1 0;paved 2 1;paved 3 1;paved 4 0;paved 5 1;");
        due("first", y.change(), 2);
        due("one makes it best", y.rest(), 1);
        PavedBan z = of("piece 0 1 1;piece 1 2 1;piece 3 4 1;piece 4 5 1;piece 0 1 5;piece 1 2 5;piece 3 4 5;piece 4 5 5;"
            + "family 0 2 1;family 3 5 1;paved 0 0;paved 1 0;paved 2 1;paved 3 1;");
        due("first", z.change(), 2);
        due("two", z.rest(), 2);
        due("none there", of(SQUARE).rest(), 0);
    }

    private static void matching() {
        PavedBan x = of("piece 0 1 1;piece 0 1 4;piece 0 1 9;family 0 1 2;family 1 0 3;family 0 0 1;family 2 3 1;paved 0 0;");
        due("more", x.match(0, 1), 3 * 3);
        due("either way", x.match(1, 0), 9);
        x.pave(1, 1);
        due("more for both", x.match(0, 1), 5 * 2 + 8 * 3);
        due("with who is there", x.match(0, 2), 0);
        due("with who is cut off", x.match(0, 3), NONE);
        due("with who is cut off", x.match(3, 2), NONE);
        x.pave(2, 1);
        due("one would be cut off", x.match(0, 1), NONE);
        due("nothing is changed", x.way(0), 4);
        for (int[] b : new int[][] {{0, 0}, {3, 3}, {-1, 0}, {0, -1}, {4, 0}, {0, 4}, {LOW, HIGH}, {HIGH, 0}, {0, LOW}}) {
            due("match " + b[0] + " " + b[1], x.match(b[0], b[1]), BAD);
        }
    }

    private static void alwaysStones() {
        PavedBan x = of(SQUARE);
        due("the tail", x.always(), 32);
        x.stone(0, 1);
        due("those that are, too", x.always(), 33);
        x.pave(5, 0);
        x.pave(1, 1);
        due("owners are not asked", x.always(), 33);
        x.stone(5, 1);
        due("it is one", x.always(), 33);
        due("cut off even so", of("piece 0 1 1;family 0 2 1;stone 0;").always(), NONE);
        due("nobody to be cut off", of("piece 0 1 1;piece 1 2 1;stone 1;").always(), 2);
        due("one beside another", of("piece 0 1 1;piece 0 1 1;family 0 1 1;family 1 0 1;").always(), 0);
        due("one needs it", of("piece 0 1 1;piece 1 2 1;piece 0 2 1;piece 2 3 1;family 0 1 1;family 3 1 1;").always(), 8);
    }

    private static void shutIn() {
        PavedBan x = of("piece 0 1 1;piece 1 2 1;piece 0 2 9;family 0 2 1;family 2 2 1;family 3 0 1;flood 0 5;flood 1 2;flood 2 5;");
        due("upper", x.shut(0, 0), 3);
        due("lower", x.shut(0, 1), 10);
        due("is there", x.shut(1, 0), 0);
        due("is there", x.shut(1, 1), 1);
        due("cut off", x.shut(2, 0), 1);
        due("cut off", x.shut(2, 1), 1);
        x.pave(2, 0);
        due("not over own", x.shut(0, 0), 3);
        due("not over own", x.shut(0, 1), 5);
        x.pave(2, 1);
        x.stone(0, 1);
        due("stones are flooded, too", x.shut(0, 0), 3);
        due("stones are flooded, too", x.shut(0, 1), 10);
        PavedBan rare = of("piece 0 1 1;family 0 1 1;flood 0 1;");
        due("one in ten", rare.shut(0, 0), 1);
        due("one in ten", rare.shut(0, 1), 10);
        PavedBan y = of("piece 0 1 1;".repeat(8) + "family 0 1 1;");
        long upper = 1;
        for (int p = 0; p < 8; p++) {
            y.flood(p, 9);
            upper *= 9;
        }
        due("all flooded", y.shut(0, 0), upper);
        due("all flooded", y.shut(0, 1), 100000000L);
        for (int[] b : new int[][] {{-1, 0}, {3, 0}, {0, -1}, {0, 2}, {LOW, 0}, {HIGH, 0}, {0, LOW}, {0, HIGH}}) {
            due("shut " + b[0] + " " + b[1], x.shut(b[0], b[1]), BAD);
        }
    }

    private static void seeing() {
        PavedBan x = of(SQUARE);
        due("first", x.saw(0, 63), 1);
        due("no pieces", x.saw(1, 0), 2);
        for (int[] b : new int[][] {{-1, 1}, {3, 1}, {0, 64}, {0, -1}, {LOW, 1}, {HIGH, 1}, {0, LOW}, {0, HIGH}}) {
            due("saw " + b[0] + " " + b[1], x.saw(b[0], b[1]), BAD);
        }
        for (int i = 3; i <= 10; i++) {
            due("saw", x.saw(2, 1), i);
        }
        due("an eleventh", x.saw(2, 1), FULL);
        due("an eleventh of none such", x.saw(3, 1), BAD);
        due("an eleventh of none such", x.saw(2, 64), BAD);
        due("seen", x.count(4), 10);
        PavedBan y = of("piece 0 1 1;".repeat(8) + "family 0 1 1;");
        due("all eight", y.saw(0, 255), 1);
        due("a ninth", y.saw(0, 256), BAD);
    }

    private static void forgetting() {
        PavedBan x = of("piece 0 1 1;family 0 1 1;");
        due("nothing", x.forget(), 0);
        x.saw(0, 1);
        x.saw(0, 1);
        due("fits", x.fits(), 0);
        due("two", x.forget(), 2);
        due("fits", x.fits(), 1);
        due("nothing", x.forget(), 0);
    }

    private static void fitting() {
        PavedBan x = of("piece 0 1 1;".repeat(8) + "family 0 1 1;".repeat(4));
        due("all", x.fits(), 40824);
        x.pave(0, 3);
        due("owners are not asked", x.fits(), 40824);
        for (int p = 0; p < 4; p++) {
            x.stone(p, 1);
        }
        due("one each", x.fits(), 24);
        x.saw(0, 16);
        due("not this one", x.fits(), 18);
        x.saw(0, 15);
        due("on stones", x.fits(), 18);
        x.saw(0, 224);
        due("on all", x.fits(), 0);
        x.forget();
        x.stone(4, 1);
        due("too few", x.fits(), 0);
        due("nobody", of("piece 0 1 1;").fits(), 0);
        due("nobody, a stone", of("piece 0 1 1;stone 0;").fits(), 1);
        due("nothing to pave", of("family 0 1 1;").fits(), 0);
    }

    private static void whoPaved() {
        PavedBan x = of("piece 0 1 1;piece 0 1 1;piece 0 1 1;family 0 1 1;family 0 1 1;");
        due("either", x.who(0), NONE);
        x.saw(0, 1);
        due("only the other", x.who(0), 1);
        due("either", x.who(1), NONE);
        x.saw(0, 2);
        due("one at least", x.who(2), 0);
        x.stone(2, 1);
        due("none fits", x.who(0), NONE);
        due("a stone", x.who(2), STATE);
        for (int p : new int[] {-1, 3, 8, LOW, HIGH}) {
            due("who " + p, x.who(p), BAD);
        }
        due("nobody", of("piece 0 1 1;").who(0), NONE);
    }

    private static void marking() {
        PavedBan x = of("piece 0 1 4;piece 1 2 5;piece 2 3 6;piece 4 5 30;family 3 0 7;family 5 4 2;paved 3 0;paved 0 1;paved 1 1;");
        int[] marks = {7, 8, 22, 16, -8, 10};
        int[] traces = {1, 11, 101, 1011, 10101, 100001};
        long trace = 0;
        for (int kind = 0; kind < 6; kind++) {
            due("mark " + kind, x.mark(kind, 0), marks[kind]);
            trace += traces[kind];
            due("trace " + kind, x.trace(), trace);
        }
        x.pave(3, 1);
        due("cut off", x.mark(2, 1), 2);
        due("cut off", x.mark(4, 1), 2 - 39);
        due("trace", x.trace(), trace + 101 + 10101);
        for (int[] b : new int[][] {{-1, 0}, {6, 0}, {0, -1}, {0, 2}, {LOW, 0}, {HIGH, 0}, {0, LOW}, {5, HIGH}}) {
            due("mark " + b[0] + " " + b[1], x.mark(b[0], b[1]), NO);
        }
        due("trace", x.trace(), trace + 101 + 10101);
    }

    private static void keepingAndGoingBack() {
        PavedBan x = of(SQUARE);
        due("back", x.back(0), STATE);
        due("back", x.back(1), STATE);
        x.pave(0, 1);
        x.pave(1, 1);
        x.stone(2, 1);
        x.flood(3, 7);
        x.saw(1, 5);
        due("keep", x.keep(1), 2);
        due("the other", x.back(0), STATE);
        x.free(0);
        x.stone(1, 1);
        x.stone(2, 0);
        x.flood(3, 1);
        x.saw(0, 1);
        x.mark(0, 0);
        typeAll(x, "five");
        due("keep", x.keep(0), 0);
        due("back", x.back(1), 2);
        int[] want = {1, 1, NONE, NONE, NONE, NONE};
        for (int p = 0; p < 6; p++) {
            due("owner " + p, x.piece(p, 3), want[p]);
            due("stone " + p, x.piece(p, 4), p == 2 ? 1 : 0);
            due("flood " + p, x.piece(p, 5), p == 3 ? 7 : 0);
        }
        due("seen", x.count(4), 1);
        due("not by 1", x.who(0), NONE);
        due("trace stays", x.trace(), 1);
        due("text stays", x.count(5), 4);
        x.pave(0, 2);
        due("again", x.back(1), 2);
        due("as it was", x.piece(0, 3), 1);
        due("the other", x.back(0), 0);
        due("seen there", x.count(4), 2);
        due("a stone there", x.piece(1, 4), 1);
        for (int image : new int[] {-1, 2, LOW, HIGH}) {
            due("keep " + image, x.keep(image), BAD);
            due("back " + image, x.back(image), BAD);
        }
    }

    private static void counting() {
        PavedBan x = of(SQUARE);
        x.pave(0, 0);
        x.pave(1, 0);
        x.pave(2, 1);
        x.stone(4, 1);
        x.saw(0, 1);
        x.saw(0, 1);
        typeAll(x, "piece");
        int[] want = {6, 3, 3, 1, 2, 5};
        for (int what = 0; what < 6; what++) {
            due("count " + what, x.count(what), want[what]);
        }
        for (int what : new int[] {-1, 6, LOW, HIGH}) {
            due("count " + what, x.count(what), BAD);
        }
    }

    private static void tracing() {
        PavedBan x = of(SQUARE);
        due("at first", x.trace(), 0);
        for (int i = 1; i <= 400; i++) {
            x.mark(4, 0);
        }
        due("often", x.trace(), 400L * 10101);
        due("asked again", x.trace(), 400L * 10101);
    }

    private static void run(int number) {
        promise = number;
        switch (number) {
            case 1: newObject(); break;
            case 2: typing(); break;
            case 3: clearing(); break;
            case 4: reading(); break;
            case 5: pieces(); break;
            case 6: families(); break;
            case 7: paving(); break;
            case 8: freeing(); break;
            case 9: stones(); break;
            case 10: flooding(); break;
            case 11: waysOfFamilies(); break;
            case 12: placesOfWays(); break;
            case 13: poles(); break;
            case 14: judging(); break;
            case 15: oneEach(); break;
            case 16: allPaved(); break;
            case 17: changing(); break;
            case 18: resting(); break;
            case 19: matching(); break;
            case 20: alwaysStones(); break;
            case 21: shutIn(); break;
            case 22: seeing(); break;
            case 23: forgetting(); break;
            case 24: fitting(); break;
            case 25: whoPaved(); break;
            case 26: marking(); break;
            case 27: case 28: keepingAndGoingBack(); break;
            case 29: counting(); break;
            default: tracing(); break;
        }
    }

    public static void main(String[] args) {
        for (int number = 1; number <= 30; number++) {
            run(number);
        }
        System.out.println(asked + " answers, " + wrong + " of them wrong");
        if (wrong != 0) {
            System.exit(1);
        }
    }
}
