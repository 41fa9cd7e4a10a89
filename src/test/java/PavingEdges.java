/** Who should pave what: one each, all, changes, matches, stones by which it always goes. */
final class PavingEdges {
    /** Places 0 to 5 in a row, as far apart as they may be. */
    private static final String ROW = "piece 0 1 30;piece 1 2 30;piece 2 3 30;piece 3 4 30;piece 4 5 30;";

    private PavingEdges() { }

    static void run() {
        nothingIsChanged();
        oneEach();
        oneEachBest();
        one();
        allPaved();
        all();
        changes();
        gains();
        change();
        rest();
        match();
        always();
    }

    private static void nothingIsChanged() {
        Check.terms("(Nothing is changed.)");
        for (int what = 0; what <= 1; what++) {
            int by = what;
            Check.changesNothing("one", x -> x.one(by, -1));
            Check.changesNothing("one of a family", x -> x.one(by, 0));
        }
        Check.changesNothing("all", x -> x.all(-1));
        Check.changesNothing("all of a piece", x -> x.all(0));
        Check.changesNothing("change", PavedBan::change);
        Check.changesNothing("rest", PavedBan::rest);
        Check.changesNothing("match", x -> x.match(0, 1));
        Check.changesNothing("always", PavedBan::always);
        Check.changesNothing("shut", x -> x.shut(0, 0));
        Check.changesNothing("fits", PavedBan::fits);
        Check.changesNothing("who", x -> x.who(0));
        String text = "piece 0 1 1;piece 2 3 1;family 0 1 1;family 2 3 1;paved 0 0;paved 1 1;";
        Check.refusedIn(() -> Check.of(text), "a change that there is", PavedBan::change, 1);
        Check.refusedIn(() -> Check.of(text), "a rest that there is", PavedBan::rest, 1);
    }

    private static void oneEach() {
        Check.terms("ONE EACH: every FAMILY paves just one PIECE, that is no STONE, no two the same");
        PavedBan x = Check.of("piece 4 5 1;".repeat(4) + "family 0 0 1;family 1 1 1;family 2 2 1;family 3 3 1;");
        Check.due("as many pieces as families", x.one(0, -1), 0);
        for (int f = 0; f < 4; f++) {
            Check.due("no two the same, " + f, x.one(0, f), f);
        }
        x.stone(3, 1);
        Check.due("one too few", x.one(0, -1), Check.NONE);
        Check.due("one too few, longest", x.one(1, -1), Check.NONE);
        Check.due("no pieces", Check.of("family 0 0 1;").one(0, -1), Check.NONE);
        Check.due("no families", Check.of("piece 0 1 1;").one(0, -1), 0);
        Check.due("no families, only stones", Check.of("piece 0 1 1;stone 0;").one(1, -1), 0);
        PavedBan y = Check.of("piece 4 5 1;".repeat(8) + "family 0 0 1;family 1 1 1;family 2 2 1;family 3 3 1;");
        y.stone(0, 1);
        y.stone(2, 1);
        y.stone(3, 1);
        int[] want = {1, 4, 5, 6};
        for (int f = 0; f < 4; f++) {
            Check.due("no stone, " + f, y.one(0, f), want[f]);
        }
        y.stone(1, 1);
        Check.due("the last ones", y.one(0, 3), 7);
        y.stone(7, 1);
        Check.due("too many stones", y.one(0, 3), Check.NONE);
        // It must pave one, though it would be better off with none.
        PavedBan z = Check.of("piece 0 1 3;piece 0 1 9;family 0 1 1;stone 1;");
        Check.due("the only one that may be paved", z.one(0, -1), 9);
        z.stone(1, 0);
        z.stone(0, 1);
        Check.due("the other", z.one(0, -1), 3);
        Check.terms("(PIECES' OWNERS now are not asked):");
        PavedBan w = Check.of("piece 0 1 3;piece 0 1 9;piece 2 3 1;family 0 1 1;");
        Check.due("nobody owns", w.one(0, 0), 1);
        for (int p = 0; p < 3; p++) {
            w.pave(p, 0);
        }
        Check.due("it owns all", w.one(0, 0), 1);
        Check.due("costs", w.one(0, -1), 3);
    }

    private static void oneEachBest() {
        Check.terms("of all such ways by which none is CUT OFF that with the least COSTS added, or with the least longest WAY;");
        // Without piece 0 they go 9 and 8, without piece 1 they go 8 and 1: costs and the longest want other pieces.
        PavedBan x = Check.of("piece 0 1 1;piece 1 2 1;piece 0 1 8;piece 1 2 7;family 0 2 1;family 0 1 1;stone 2;stone 3;");
        int[][] want = {{9 + 1, 0, 1}, {8, 1, 0}};
        for (int what = 0; what <= 1; what++) {
            for (int f = -1; f <= 1; f++) {
                Check.due("by " + what + ", of " + f, x.one(what, f), want[what][f + 1]);
            }
        }
        PavedBan y = Check.of("piece 0 1 5;piece 0 1 9;family 0 1 1;family 0 1 2;");
        Check.due("the dearer keeps the short one", y.one(0, -1), 9 + 2 * 5);
        Check.due("family 0", y.one(0, 0), 0);
        Check.due("longest", y.one(1, -1), 9);
        Check.due("the first of several", y.one(1, 0), 0);
        PavedBan z = Check.of("piece 0 1 5;piece 0 1 9;family 0 1 2;family 0 1 1;");
        Check.due("the dearer keeps the short one", z.one(0, 0), 1);
        Check.due("longest: the first of several", z.one(1, 0), 0);
        PavedBan cut = Check.of("piece 0 1 5;family 0 1 1;");
        Check.due("the only piece cuts off", cut.one(0, -1), Check.NONE);
        Check.due("the only piece cuts off, longest", cut.one(1, -1), Check.NONE);
        Check.due("cut off at all", Check.of("piece 0 1 1;family 0 2 1;").one(0, -1), Check.NONE);
        PavedBan most = Check.of(ROW + "piece 0 1 1;piece 0 1 2;piece 0 1 3;family 5 0 9;family 0 5 9;family 5 0 9;family 0 5 9;");
        Check.due("four need all from 0 to 1, the shortest too", most.one(0, -1), 9 * (3 * 121 + 122));
        Check.due("the longest", most.one(1, -1), 122);
        int[] pieces = {0, 5, 6, 7};
        for (int f = 0; f < 4; f++) {
            Check.due("family " + f, most.one(0, f), pieces[f]);
        }
        Check.terms("of several the first by the PIECES of FAMILY 0, 1, ..; NONE.");
        PavedBan same = Check.of("piece 0 1 4;piece 0 1 4;piece 0 1 4;family 0 1 1;family 0 1 1;");
        Check.due("all alike: family 0", same.one(0, 0), 0);
        Check.due("all alike: family 1", same.one(0, 1), 1);
        PavedBan first = Check.of("piece 0 1 4;piece 2 3 1;piece 2 3 1;family 0 1 1;family 2 2 1;");
        Check.due("the first that does not cut off", first.one(0, 0), 1);
        Check.due("family 1 then the first", first.one(0, 1), 0);
        Check.due("none", Check.of("piece 0 1 4;family 0 1 1;family 0 1 1;").one(0, 0), Check.NONE);
    }

    private static void one() {
        Check.promise(15, "ONE EACH by COSTS (what = 0) or the longest WAY (1): that (f = -1), the PIECE of a FAMILY; NONE.");
        PavedBan x = Check.of("piece 0 1 5;piece 0 1 9;piece 2 3 1;family 0 1 3;family 2 2 1;family 4 4 1;");
        int[][] want = {{15, 1, 0, 2}, {5, 1, 0, 2}};
        for (int what = 0; what <= 1; what++) {
            for (int f = -1; f <= 2; f++) {
                Check.due("one " + what + " " + f, x.one(what, f), want[what][f + 1]);
            }
        }
        x.stone(2, 1);
        for (int what = 0; what <= 1; what++) {
            for (int f = -1; f <= 2; f++) {
                Check.due("none, one " + what + " " + f, x.one(what, f), Check.NONE);
            }
        }
        Check.promise(15, "BAD.");
        for (int what : new int[] {-1, 2, 3, Check.LOW, Check.HIGH}) {
            Check.bad("what " + what, y -> y.one(what, -1));
            Check.bad("what " + what + " of a family", y -> y.one(what, 0));
        }
        for (int what = 0; what <= 1; what++) {
            int by = what;
            Check.bad("the first family that is not there", y -> y.one(by, y.count(1)));
            for (int f : new int[] {-2, 4, Check.LOW, Check.HIGH}) {
                Check.bad("family " + f, y -> y.one(by, f));
            }
        }
    }

    private static void allPaved() {
        Check.terms("ALL: every PIECE that is no STONE is paved by some FAMILY:");
        Check.due("no pieces, all there", Check.of("family 0 0 1;").all(-1), 0);
        Check.due("no pieces, not there", Check.of("family 0 1 1;").all(-1), Check.NONE);
        Check.due("pieces, no families", Check.of("piece 0 1 1;").all(-1), Check.NONE);
        Check.due("only stones, no families", Check.of("piece 0 1 1;stone 0;").all(-1), 0);
        Check.due("only stones", Check.of("piece 0 1 7;family 0 1 2;stone 0;").all(-1), 14);
        Check.due("one must pave all", Check.of("piece 0 1 1;piece 0 1 2;family 0 1 1;").all(-1), Check.NONE);
        Check.due("all but a stone", Check.of("piece 0 1 1;piece 0 1 2;family 0 1 1;stone 1;").all(-1), 2);
        PavedBan eight = Check.of("piece 0 1 1;".repeat(8) + "family 0 1 1;".repeat(4));
        Check.due("eight by four", eight.all(-1), 4);
        int[] want = {0, 0, 0, 0, 0, 0, 0, 1};
        for (int p = 0; p < 8; p++) {
            Check.due("the first by owners, " + p, eight.all(p), want[p]);
        }
        Check.terms("of all such ways by which none is CUT OFF that with the least COSTS added, of several the first by the OWNERS of PIECE 0, 1, ..; NONE.");
        PavedBan x = Check.of("piece 0 1 5;piece 0 1 9;family 0 1 1;family 0 1 2;");
        Check.due("the dearer keeps the short one", x.all(-1), 9 + 2 * 5);
        Check.due("piece 0", x.all(0), 0);
        Check.due("piece 1", x.all(1), 1);
        PavedBan y = Check.of("piece 0 1 5;piece 0 1 9;family 0 1 2;family 0 1 1;");
        Check.due("the other way round", y.all(0), 1);
        Check.due("the other way round", y.all(1), 0);
        PavedBan alike = Check.of("piece 0 1 5;piece 0 1 5;family 0 1 2;family 0 1 2;");
        Check.due("of several the first, piece 0", alike.all(0), 0);
        Check.due("of several the first, piece 1", alike.all(1), 1);
        PavedBan row = Check.of(ROW + "family 0 5 9;family 5 0 9;family 0 5 9;family 3 3 1;");
        Check.due("one that is there paves all", row.all(-1), 3 * 9 * 150);
        Check.due("it", row.all(4), 3);
        Check.due("two that both need it", Check.of("piece 0 1 1;family 0 1 1;family 1 0 1;").all(-1), Check.NONE);
    }

    private static void all() {
        Check.promise(16, "ALL: COSTS (p = -1), the OWNER of a PIECE then (a STONE: -5); NONE.");
        PavedBan x = Check.of("piece 0 1 5;piece 0 1 9;piece 2 3 1;family 0 1 3;family 2 2 1;stone 1;");
        int[] want = {15, 1, Check.LACKING, 0};
        for (int p = -1; p <= 2; p++) {
            Check.due("all " + p, x.all(p), want[p + 1]);
        }
        for (int p = 0; p <= 2; p++) {
            x.pave(p, 1);
        }
        Check.due("owners now are not asked", x.all(2), 0);
        PavedBan stones = Check.of("piece 0 1 1;".repeat(8) + "family 0 1 1;");
        for (int p = 0; p < 8; p++) {
            stones.stone(p, 1);
        }
        Check.due("the last is a stone", stones.all(7), Check.LACKING);
        PavedBan none = Check.of("piece 0 1 5;family 0 1 3;");
        Check.due("none", none.all(-1), Check.NONE);
        Check.due("none, of a piece", none.all(0), Check.NONE);
        // The document leaves room here: NONE stands ahead of a stone's -5, for there is no "then".
        Check.due("none, of a stone", Check.of("piece 0 1 5;piece 2 3 1;family 0 1 3;stone 1;").all(1), Check.NONE);
        Check.promise(16, "BAD.");
        for (int p : new int[] {-2, 8, Check.LOW, Check.HIGH}) {
            Check.bad("all " + p, y -> y.all(p));
        }
        Check.bad("the first piece that is not there", y -> y.all(y.count(0)));
    }

    /** Four families that each own the only piece by which they get where they must. */
    private static final String FOUR = "piece 0 1 1;piece 2 3 1;piece 4 5 1;piece 1 2 1;"
        + "family 0 1 1;family 2 3 1;family 4 5 1;family 1 2 1;paved 0 0;paved 1 1;paved 2 2;paved 3 3;";

    private static void changes() {
        Check.terms("CHANGE: the first PIECE P, then the first PIECE Q above it, of two OWNERS,");
        PavedBan x = Check.of(FOUR);
        Check.due("the first two", x.change(), 1);
        x.free(1);
        Check.due("Q has no owner: the next Q", x.change(), 2);
        x.free(2);
        Check.due("the last Q", x.change(), 3);
        x.pave(1, 1);
        x.pave(2, 2);
        x.free(0);
        Check.due("P has no owner: the next P", x.change(), 12);
        x.stone(1, 1);
        Check.due("a stone is nobody's", x.change(), 23);
        x.stone(2, 1);
        Check.due("one owner is left", x.change(), Check.NONE);
        PavedBan y = Check.of("piece 4 5 1;".repeat(6) + "piece 0 1 1;piece 2 3 1;family 0 1 1;family 2 3 1;paved 6 0;paved 7 1;");
        Check.due("the last two", y.change(), 67);
        PavedBan z = Check.of("piece 0 1 1;" + "piece 4 5 1;".repeat(6) + "piece 2 3 1;family 0 1 1;family 2 3 1;paved 0 0;paved 7 1;");
        Check.due("the first and the last", z.change(), 7);
        z.pave(7, 0);
        Check.due("one and the same owner", z.change(), Check.NONE);
        Check.due("one piece", Check.of("piece 0 1 1;family 0 1 1;family 2 3 1;paved 0 0;").change(), Check.NONE);
    }

    private static void gains() {
        Check.terms("so that both have less COST, if they exchange these");
        // Each owns its short piece of 4 yards, and goes round by one of so many.
        int[][] round = {{5, 5, 2}, {4, 5, Check.NONE}, {5, 4, Check.NONE}, {4, 4, Check.NONE}, {3, 5, Check.NONE}, {5, 3, Check.NONE}, {30, 30, 2}};
        for (int[] r : round) {
            PavedBan x = Check.of("piece 0 1 4;piece 0 1 " + r[0] + ";piece 2 3 4;piece 2 3 " + r[1]
                + ";family 0 1 1;family 2 3 9;paved 0 0;paved 2 1;");
            Check.due("round by " + r[0] + " and " + r[1], x.change(), r[2]);
            Check.due("rest, round by " + r[0] + " and " + r[1], x.rest(), r[2] == Check.NONE ? 0 : 1);
        }
        // Family 0 would gain, but the other would lose what it walks on.
        PavedBan y = Check.of("piece 0 1 4;piece 0 1 9;piece 2 3 1;family 0 1 1;family 0 1 1;paved 0 0;paved 2 1;");
        Check.due("one gains, one loses", y.change(), Check.NONE);
        // Family 1 would gain by what it gives, but not with what it gets.
        PavedBan gets = Check.of("piece 0 1 1;piece 1 2 1;piece 0 1 9;piece 0 2 9;family 0 1 1;family 0 2 1;paved 0 0;paved 1 1;");
        Check.due("what one gets is banned then", gets.change(), Check.NONE);
        Check.terms("(who is CUT OFF has more COST than who is not); NONE.");
        PavedBan both = Check.of("piece 0 1 30;piece 2 3 30;family 0 1 9;family 2 3 9;paved 0 0;paved 1 1;");
        Check.due("both are cut off no more", both.change(), 1);
        PavedBan far = Check.of("piece 0 1 30;piece 1 2 30;piece 2 3 30;piece 3 4 30;piece 4 5 30;piece 0 1 1;piece 4 5 1;"
            + "family 0 5 9;family 5 0 9;paved 0 0;paved 5 0;paved 4 1;paved 6 1;");
        Check.due("a long way is less than none", far.change(), 4);
        PavedBan still = Check.of("piece 0 1 1;piece 2 3 1;family 0 4 1;family 2 4 1;paved 0 0;paved 1 1;");
        Check.due("cut off ahead and behind", still.change(), Check.NONE);
        PavedBan one = Check.of("piece 0 1 1;piece 2 3 1;family 0 1 1;family 2 4 1;paved 0 0;paved 1 1;");
        Check.due("one stays cut off", one.change(), Check.NONE);
        PavedBan into = Check.of("piece 0 1 1;piece 0 1 9;piece 2 3 1;family 0 1 1;family 2 3 1;paved 0 0;paved 1 1;paved 2 1;");
        Check.due("the other gains by 2 alone", into.change(), 2);
        Check.due("nobody owns", Check.of("piece 0 1 1;family 0 1 1;").change(), Check.NONE);
    }

    private static void change() {
        Check.promise(17, "CHANGE: 10 times P and Q; NONE.");
        for (int p = 0; p < 8; p++) {
            for (int q = p + 1; q < 8; q++) {
                StringBuilder text = new StringBuilder();
                for (int i = 0; i < 8; i++) {
                    text.append(i == p ? "piece 0 1 1;" : i == q ? "piece 2 3 1;" : "piece 4 5 1;");
                }
                PavedBan x = Check.of(text + "family 0 1 1;family 2 3 1;");
                Check.due("nobody owns", x.change(), Check.NONE);
                x.pave(p, 0);
                x.pave(q, 1);
                Check.due("P " + p + ", Q " + q, x.change(), 10 * p + q);
                x.pave(p, 1);
                x.pave(q, 0);
                Check.due("exchanged", x.change(), Check.NONE);
            }
        }
        Check.due("a new object", new PavedBan().change(), Check.NONE);
    }

    private static void rest() {
        Check.terms("REST: how many such changes there are, one behind another, the first each time, till there is none.");
        Check.promise(18, "REST.");
        Check.due("a new object", new PavedBan().rest(), 0);
        Check.due("nobody owns", Check.of("piece 0 1 1;family 0 1 1;").rest(), 0);
        PavedBan x = Check.of(FOUR);
        Check.due("two, by two families each", x.rest(), 2);
        x.free(3);
        Check.due("the third has none to exchange with", x.rest(), 1);
        PavedBan y = Check.of("piece 0 5 2;piece 4 2 1;piece 2 3 2;piece 3 1 2;piece 3 0 3;piece 2 3 3;piece 4 3 2;piece 1 0 2;"
            + "family 1 5 1;family 1 2 1;family 5 4 1;"
            + "paved 0 2;paved 1 1;paved 2 1;paved 3 1;paved 4 0;paved 5 0;paved 6 2;paved 7 0;");
        Check.due("four", y.rest(), 4);
        for (int left = 3; left >= 0; left--) {
            int both = y.change();
            int owner = y.piece(both / 10, 3);
            y.pave(both / 10, y.piece(both % 10, 3));
            y.pave(both % 10, owner);
            Check.due("left", y.rest(), left);
        }
        Check.due("none is left", y.change(), Check.NONE);
    }

    private static void match() {
        Check.terms("MATCH of two FAMILIES: all PIECES of both are banned for both: how much their COSTS together would be more;");
        PavedBan x = Check.of("piece 0 1 1;piece 0 1 4;piece 0 1 9;family 0 1 2;family 1 0 3;family 0 0 9;");
        Check.due("no pieces of theirs", x.match(0, 1), 0);
        x.pave(0, 2);
        Check.due("a third's are not banned", x.match(0, 1), 0);
        x.pave(0, 0);
        Check.due("banned for the other, too", x.match(0, 1), 3 * 3);
        x.pave(1, 1);
        Check.due("both lose", x.match(0, 1), 2 * 5 + 3 * 8);
        Check.due("with one that is there", x.match(2, 0), 0);
        PavedBan most = Check.of(ROW + "piece 0 5 1;piece 0 5 1;family 0 5 9;family 5 0 9;paved 5 0;paved 6 1;");
        Check.due("the most", most.match(0, 1), 2 * 9 * 149);
        Check.terms("NONE: one would be (or is) CUT OFF.");
        x.pave(2, 2);
        Check.due("nobody would", x.match(0, 1), 34);
        x.pave(2, 1);
        Check.due("both would", x.match(0, 1), Check.NONE);
        PavedBan would = Check.of("piece 0 1 1;family 0 1 1;family 5 5 1;paved 0 1;");
        Check.due("the first would", would.match(0, 1), Check.NONE);
        Check.due("the second would", would.match(1, 0), Check.NONE);
        PavedBan is = Check.of("piece 0 1 1;piece 0 1 2;family 0 1 1;family 0 2 1;paved 0 0;paved 1 0;");
        Check.due("both are", is.match(0, 1), Check.NONE);
        is.free(1);
        Check.due("one is", is.match(0, 1), Check.NONE);
        Check.due("one is, the other way round", is.match(1, 0), Check.NONE);
        Check.promise(19, "MATCH; NONE.");
        PavedBan y = Check.of("piece 0 1 1;piece 0 1 2;piece 2 3 1;family 0 1 1;family 5 5 1;family 5 5 1;family 1 0 1;paved 0 0;");
        Check.due("the first and the last", y.match(0, 3), 1);
        Check.due("the last and the first", y.match(3, 0), 1);
        y.pave(1, 3);
        Check.due("the first and the last, cut off", y.match(0, 3), Check.NONE);
        Check.promise(19, "BAD (one and the same, too).");
        for (int f = 0; f < 4; f++) {
            int both = f;
            Check.bad("one and the same, " + f, z -> z.match(both, both));
        }
        for (int f : new int[] {-1, 4, Check.LOW, Check.HIGH}) {
            Check.bad("first " + f, z -> z.match(f, 0));
            Check.bad("second " + f, z -> z.match(0, f));
            Check.bad("both " + f, z -> z.match(f, f));
        }
        Check.bad("the first family that is not there", z -> z.match(z.count(1), 0));
        Check.bad("the first family that is not there", z -> z.match(0, z.count(1)));
    }

    private static void always() {
        Check.terms("ALWAYS: PIECES (bits) that must be STONES so that, however each FAMILY paves one PIECE (no STONE, several may be at one), none is CUT OFF;");
        Check.due("the only piece", Check.of("piece 0 1 1;family 0 1 1;").always(), 1);
        Check.due("one of two is left", Check.of("piece 0 1 1;piece 0 1 30;family 0 1 1;").always(), 0);
        Check.due("several at one are no more", Check.of("piece 0 1 1;piece 0 1 30;" + "family 0 1 1;".repeat(4)).always(), 0);
        Check.due("all five in a row", Check.of(ROW + "family 5 0 1;").always(), 31);
        Check.due("those between", Check.of(ROW + "family 1 4 1;").always(), 14);
        Check.due("by all families", Check.of(ROW + "family 0 1 1;family 2 2 1;family 5 4 1;").always(), 17);
        Check.due("who is there needs none", Check.of(ROW + "family 3 3 1;").always(), 0);
        Check.due("the last of eight", Check.of("piece 0 1 1;".repeat(7) + "piece 1 2 1;family 0 2 1;").always(), 128);
        PavedBan owned = Check.of("piece 0 1 1;piece 0 1 2;family 0 1 1;paved 0 0;paved 1 0;");
        Check.due("owners now are not asked", owned.always(), 0);
        Check.terms("those that are STONES are among the bits;");
        PavedBan x = Check.of("piece 0 1 1;".repeat(8));
        Check.due("no families, no stones", x.always(), 0);
        for (int p = 0; p < 8; p++) {
            x.stone(p, 1);
            Check.due("stones up to " + p, x.always(), (2 << p) - 1);
        }
        PavedBan y = Check.of("piece 0 1 1;piece 2 3 1;piece 1 2 1;family 0 1 1;stone 1;");
        Check.due("one that is, one that must", y.always(), 3);
        y.stone(0, 1);
        Check.due("both are", y.always(), 3);
        Check.terms("NONE: one is CUT OFF even so.");
        Check.due("no piece there", Check.of("piece 0 1 1;family 0 2 1;").always(), Check.NONE);
        Check.due("all are stones", Check.of("piece 0 1 1;family 0 2 1;stone 0;").always(), Check.NONE);
        Check.due("no pieces", Check.of("family 0 1 1;").always(), Check.NONE);
        Check.due("no pieces, it is there", Check.of("family 0 0 1;").always(), 0);
        Check.due("the last of four", Check.of("piece 0 1 1;piece 0 1 1;family 0 1 1;family 0 0 1;family 1 0 1;family 5 0 1;").always(), Check.NONE);
        Check.promise(20, "ALWAYS, as bits; NONE.");
        Check.due("a new object", new PavedBan().always(), 0);
        Check.due("bits", Check.of(ROW + "family 0 1 1;family 4 5 1;stone 2;").always(), 21);
        Check.due("none", Check.of(ROW.substring(13) + "family 0 1 1;stone 2;").always(), Check.NONE);
    }
}
