/** A new object, what is asked of pieces and families, and the calls that change owners, stones and floods. */
final class TownEdges {
    private static final int[] NO_PIECE = {-1, -2, Check.LOW, Check.HIGH};

    private TownEdges() { }

    static void run() {
        newObject();
        atFirst();
        piece();
        family();
        pave();
        free();
        stone();
        flood();
    }

    private static void newObject() {
        Check.promise(1, "As told; no PIECES, no FAMILIES.");
        for (int what = 0; what <= 5; what++) {
            Check.due("count " + what, new PavedBan().count(what), 0);
        }
        PavedBan x = new PavedBan();
        Check.due("no piece", x.piece(0, 0), Check.BAD);
        Check.due("no family", x.family(0, 0), Check.BAD);
        Check.due("no image 0", x.back(0), Check.STATE);
        Check.due("no image 1", x.back(1), Check.STATE);
        Check.due("no trace", x.trace(), 0);
        Check.due("costs", x.judge(0), 0);
        Check.due("longest", x.judge(1), 0);
        Check.due("cut off", x.judge(2), 0);
        Check.due("one each", x.one(0, -1), 0);
        Check.due("one each, longest", x.one(1, -1), 0);
        Check.due("all", x.all(-1), 0);
        Check.due("change", x.change(), Check.NONE);
        Check.due("rest", x.rest(), 0);
        Check.due("always", x.always(), 0);
        Check.due("fits", x.fits(), 1);
        Check.due("forget", x.forget(), 0);
        Check.due("clear", x.clear(), 0);
        Check.due("town", x.town(), 0);
        Check.due("keep", x.keep(0), 0);
        Check.due("back", x.back(0), 0);
        // Two objects have nothing in common.
        Check.full();
        Check.same("another object", new PavedBan(), new PavedBan());
        Check.due("as new as the first", new PavedBan().count(0), 0);
    }

    private static void atFirst() {
        Check.terms("Each PIECE is paved by one FAMILY (its OWNER), or by none (at first),");
        PavedBan x = Check.of("piece 0 1 1;".repeat(8) + "family 0 1 1;family 0 1 1;");
        for (int p = 0; p < 8; p++) {
            Check.due("owner of " + p, x.piece(p, 3), Check.NONE);
        }
        x.pave(3, 0);
        x.pave(3, 1);
        Check.due("one owner, not two", x.family(0, 3), 0);
        Check.due("the later", x.family(1, 3), 1);
        Check.due("one piece has one", x.count(2), 1);
        Check.terms("or is a STONE (nobody's; none at first).");
        for (int p = 0; p < 8; p++) {
            Check.due("stone " + p, x.piece(p, 4), 0);
        }
        Check.due("stones", x.count(3), 0);
        x.stone(3, 1);
        Check.due("nobody's", x.piece(3, 3), Check.NONE);
        Check.due("it owns none", x.family(1, 3), 0);
        Check.terms("FLOOD of a PIECE: so many in 10 (0 .. 9; 0 at first).");
        for (int p = 0; p < 8; p++) {
            Check.due("flood of " + p, x.piece(p, 5), 0);
        }
        Check.due("0", Check.good("piece 0 1 1;flood 0 0;", 2).piece(0, 5), 0);
        Check.due("9", Check.good("piece 0 1 1;flood 0 9;", 2).piece(0, 5), 9);
        Check.fault("piece 0 1 1;flood 0 10;", 20);
    }

    private static void piece() {
        Check.promise(5, "Of a PIECE: 0 A, 1 B, 2 YARDS, 3 its OWNER (NONE), 4 whether it is a STONE, 5 FLOOD.");
        PavedBan x = Check.of("piece 5 0 30;" + "piece 1 2 3;".repeat(6) + "piece 3 4 1;family 0 1 1;family 2 2 2;"
            + "paved 7 1;stone 0;flood 7 9;flood 0 1;");
        int[][] want = {{5, 0, 30, Check.NONE, 1, 1}, {3, 4, 1, 1, 0, 9}, {1, 2, 3, Check.NONE, 0, 0}};
        for (int what = 0; what <= 5; what++) {
            Check.due("the first, " + what, x.piece(0, what), want[0][what]);
            Check.due("the last, " + what, x.piece(7, what), want[1][what]);
            Check.due("another, " + what, x.piece(4, what), want[2][what]);
            int asked = what;
            Check.changesNothing("piece", y -> y.piece(0, asked));
        }
        Check.promise(5, "BAD.");
        for (int what = 0; what <= 5; what++) {
            int asked = what;
            Check.bad("the first piece that is not there", y -> y.piece(y.count(0), asked));
            for (int p : NO_PIECE) {
                Check.bad("piece " + p, y -> y.piece(p, asked));
            }
        }
        for (int what : new int[] {-1, 6, Check.LOW, Check.HIGH}) {
            Check.bad("what " + what, y -> y.piece(0, what));
        }
    }

    private static void family() {
        Check.promise(6, "Of a FAMILY: 0 HOME, 1 where it must get TO, 2 TIMES, 3 how many PIECES it owns.");
        PavedBan x = Check.of("piece 0 1 1;".repeat(8) + "family 5 0 9;family 1 2 3;family 1 2 3;family 4 4 1;"
            + "paved 0 3;paved 7 3;paved 1 0;");
        int[][] want = {{5, 0, 9, 1}, {4, 4, 1, 2}, {1, 2, 3, 0}};
        for (int what = 0; what <= 3; what++) {
            Check.due("the first, " + what, x.family(0, what), want[0][what]);
            Check.due("the last, " + what, x.family(3, what), want[1][what]);
            Check.due("another, " + what, x.family(1, what), want[2][what]);
            int asked = what;
            Check.changesNothing("family", y -> y.family(0, asked));
        }
        for (int p = 0; p < 8; p++) {
            x.pave(p, 2);
            Check.due("owns " + p + " and those ahead", x.family(2, 3), p + 1);
        }
        Check.due("owns none", x.family(3, 3), 0);
        Check.promise(6, "BAD.");
        for (int what = 0; what <= 3; what++) {
            int asked = what;
            Check.bad("the first family that is not there", y -> y.family(y.count(1), asked));
            for (int f : NO_PIECE) {
                Check.bad("family " + f, y -> y.family(f, asked));
            }
        }
        for (int what : new int[] {-1, 4, 5, Check.LOW, Check.HIGH}) {
            Check.bad("what " + what, y -> y.family(0, what));
        }
    }

    private static void pave() {
        Check.promise(7, "A FAMILY paves a PIECE (whoever did): its OWNER ahead of that (NONE).");
        PavedBan x = Check.of("piece 0 1 1;".repeat(8) + "family 0 1 1;".repeat(4));
        Check.due("nobody ahead", x.pave(0, 0), Check.NONE);
        Check.due("the same", x.pave(0, 0), 0);
        Check.due("another", x.pave(0, 3), 0);
        Check.due("whoever did", x.pave(0, 1), 3);
        Check.due("owner", x.piece(0, 3), 1);
        Check.due("the last, by the last", x.pave(7, 3), Check.NONE);
        Check.due("owner of the last", x.piece(7, 3), 3);
        Check.due("two have owners", x.count(2), 2);
        x.stone(5, 1);
        x.stone(5, 0);
        Check.due("a stone no more", x.pave(5, 2), Check.NONE);
        Check.promise(7, "BAD;");
        for (int p : NO_PIECE) {
            Check.bad("piece " + p, y -> y.pave(p, 0));
            Check.bad("family " + p, y -> y.pave(0, p));
        }
        Check.bad("the first piece that is not there", y -> y.pave(y.count(0), 0));
        Check.bad("the first family that is not there", y -> y.pave(0, y.count(1)));
        Check.bad("neither is there", y -> y.pave(y.count(0), y.count(1)));
        Check.promise(7, "STATE: it is a STONE.");
        Check.refusedIn(Check::full, "a stone", y -> y.pave(4, 0), Check.STATE);
        Check.refusedIn(Check::full, "a stone that had an owner", y -> y.pave(5, 2), Check.STATE);
        Check.refusedIn(() -> Check.of("piece 0 1 1;family 0 1 1;stone 0;"), "the only one", y -> y.pave(0, 0), Check.STATE);
        Check.refusedIn(Check::full, "a stone by none that is there", y -> y.pave(4, 4), Check.BAD);
    }

    private static void free() {
        Check.promise(8, "A PIECE is nobody's: its OWNER ahead of that.");
        PavedBan x = Check.full();
        Check.due("of the first family", x.free(0), 0);
        Check.due("nobody's", x.piece(0, 3), Check.NONE);
        Check.due("of the last family", x.free(3), 3);
        Check.due("one is left", x.count(2), 1);
        PavedBan y = Check.of("piece 0 1 1;".repeat(8) + "family 0 1 1;paved 7 0;");
        Check.due("the last piece", y.free(7), 0);
        Check.due("pave again", y.pave(7, 0), Check.NONE);
        Check.promise(8, "BAD;");
        for (int p : NO_PIECE) {
            Check.bad("piece " + p, z -> z.free(p));
        }
        Check.bad("the first piece that is not there", z -> z.free(z.count(0)));
        Check.promise(8, "STATE: it has none.");
        Check.refusedIn(Check::full, "nobody's", z -> z.free(1), Check.STATE);
        Check.refusedIn(Check::full, "freed ahead of that", z -> z.free(7), Check.STATE);
        Check.refusedIn(Check::full, "a stone", z -> z.free(4), Check.STATE);
        Check.refusedIn(Check::full, "a stone that had an owner", z -> z.free(5), Check.STATE);
    }

    private static void stone() {
        Check.promise(9, "A PIECE becomes a STONE (1; it is nobody's then), or is none (0): what it was.");
        PavedBan x = Check.full();
        Check.due("becomes one", x.stone(0, 1), 0);
        Check.due("is one", x.piece(0, 4), 1);
        Check.due("nobody's", x.piece(0, 3), Check.NONE);
        Check.due("was one", x.stone(0, 1), 1);
        Check.due("is none", x.stone(0, 0), 1);
        Check.due("none", x.piece(0, 4), 0);
        Check.due("still nobody's", x.piece(0, 3), Check.NONE);
        Check.due("was none", x.stone(0, 0), 0);
        Check.due("the last", x.stone(7, 1), 0);
        Check.due("its flood stays", x.stone(6, 1), 0);
        Check.due("its flood stays", x.piece(6, 5), 9);
        for (int p = 0; p < 8; p++) {
            x.stone(p, 1);
        }
        Check.due("all are stones", x.count(3), 8);
        Check.due("none has an owner", x.count(2), 0);
        Check.refusedIn(Check::full, "none that is none, with an owner", y -> y.stone(0, 0), 0);
        Check.refusedIn(Check::full, "a stone that is one", y -> y.stone(4, 1), 1);
        Check.promise(9, "BAD.");
        for (int p : NO_PIECE) {
            Check.bad("piece " + p, y -> y.stone(p, 1));
            Check.bad("piece " + p, y -> y.stone(p, 0));
        }
        Check.bad("the first piece that is not there", y -> y.stone(y.count(0), 1));
        Check.bad("the first piece that is not there", y -> y.stone(y.count(0), 0));
        for (int is : new int[] {-1, 2, 3, Check.LOW, Check.HIGH}) {
            Check.bad("is " + is, y -> y.stone(0, is));
        }
    }

    private static void flood() {
        Check.promise(10, "FLOOD of a PIECE becomes n: what it was.");
        PavedBan x = Check.of("piece 0 1 1;".repeat(8));
        int was = 0;
        for (int n : new int[] {0, 9, 1, 8, 5, 0}) {
            Check.due("the first, " + n, x.flood(0, n), was);
            Check.due("the last, " + n, x.flood(7, n), was);
            Check.due("is " + n, x.piece(7, 5), n);
            Check.due("another", x.piece(6, 5), 0);
            was = n;
        }
        x.stone(3, 1);
        Check.due("of a stone", x.flood(3, 9), 0);
        Check.due("a stone it stays", x.piece(3, 4), 1);
        Check.promise(10, "BAD.");
        for (int p : NO_PIECE) {
            Check.bad("piece " + p, y -> y.flood(p, 1));
        }
        Check.bad("the first piece that is not there", y -> y.flood(y.count(0), 0));
        for (int n : new int[] {-1, 10, 11, Check.LOW, Check.HIGH}) {
            Check.bad("n " + n, y -> y.flood(0, n));
        }
    }
}
