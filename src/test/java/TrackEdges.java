/** Floods, and who can have paved what. */
final class TrackEdges {
    private TrackEdges() { }

    static void run() {
        shut();
        shutCall();
        seen();
        forget();
        fits();
        who();
    }

    private static void fraction(String what, PavedBan x, int f, long upper, long lower) {
        Check.due(what + ", upper", x.shut(f, 0), upper);
        Check.due(what + ", lower", x.shut(f, 1), lower);
    }

    private static void shut() {
        Check.terms("SHUT: that a FAMILY can't get there, if each PIECE is flooded with its FLOOD in 10, each for itself:");
        long[][] want = {{0, 1}, {1, 10}, {1, 5}, {3, 10}, {2, 5}, {1, 2}, {3, 5}, {7, 10}, {4, 5}, {9, 10}};
        for (int n = 0; n <= 9; n++) {
            fraction("one piece by " + n, Check.of("piece 0 1 1;family 0 1 1;flood 0 " + n + ";"), 0, want[n][0], want[n][1]);
        }
        PavedBan x = Check.of("piece 0 1 1;piece 1 2 1;piece 0 2 1;family 0 2 1;family 0 1 1;flood 0 5;flood 1 2;flood 2 5;");
        fraction("two behind one another, or one", x, 0, 3, 10);
        fraction("one, or two behind one another", x, 1, 3, 10);
        PavedBan eight = Check.of("piece 0 1 1;".repeat(8) + "family 0 1 1;");
        long[][] powers = {{9, 10}, {1, 10}, {1, 2}, {1, 5}, {4, 5}};
        int[] floods = {9, 1, 5, 2, 8};
        for (int i = 0; i < floods.length; i++) {
            for (int p = 0; p < 8; p++) {
                eight.flood(p, floods[i]);
            }
            fraction("all eight by " + floods[i], eight, 0, power(powers[i][0]), power(powers[i][1]));
        }
        eight.flood(7, 0);
        fraction("one is never flooded", eight, 0, 0, 1);
        Check.terms("nobody goes over flooded ones, it not over own ones, either: a fraction.");
        PavedBan y = Check.of("piece 0 1 1;piece 0 1 1;family 0 1 1;family 1 0 1;flood 0 5;flood 1 5;");
        fraction("both flooded", y, 0, 1, 4);
        y.pave(0, 1);
        fraction("another's may be gone over", y, 0, 1, 4);
        fraction("an own one may not", y, 1, 1, 2);
        y.pave(1, 1);
        fraction("all are own ones", y, 1, 1, 1);
        y.stone(0, 1);
        y.stone(1, 1);
        fraction("stones are flooded, too", y, 0, 1, 4);
        fraction("cut off", Check.of("piece 0 1 1;family 0 2 1;flood 0 3;"), 0, 1, 1);
        fraction("cut off, no pieces", Check.of("family 0 2 1;"), 0, 1, 1);
        fraction("there", Check.of("piece 0 1 1;family 0 0 1;flood 0 9;paved 0 0;"), 0, 0, 1);
        fraction("there, no pieces", Check.of("family 0 0 1;"), 0, 0, 1);
    }

    private static long power(long base) {
        long power = 1;
        for (int i = 0; i < 8; i++) {
            power *= base;
        }
        return power;
    }

    private static void shutCall() {
        Check.promise(21, "SHUT: upper (what = 0), lower number (1), in least terms.");
        PavedBan x = Check.of("piece 0 1 1;piece 0 1 1;family 0 1 1;family 0 1 1;family 0 1 1;family 0 0 1;flood 0 5;flood 1 4;");
        fraction("20 in 100", x, 0, 1, 5);
        fraction("the last", x, 3, 0, 1);
        x.flood(1, 9);
        fraction("45 in 100", x, 2, 9, 20);
        x.flood(0, 8);
        fraction("72 in 100", x, 2, 18, 25);
        x.flood(0, 7);
        fraction("63 in 100", x, 2, 63, 100);
        Check.promise(21, "BAD.");
        for (int what : new int[] {-1, 2, 3, Check.LOW, Check.HIGH}) {
            Check.bad("what " + what, y -> y.shut(0, what));
        }
        for (int what = 0; what <= 1; what++) {
            int asked = what;
            for (int f : new int[] {-1, 4, Check.LOW, Check.HIGH}) {
                Check.bad("family " + f, y -> y.shut(f, asked));
            }
            Check.bad("the first family that is not there", y -> y.shut(y.count(1), asked));
        }
    }

    /** Eight pieces and four families; so many were seen. */
    private static PavedBan withSeen(int many) {
        PavedBan x = Check.of("piece 0 1 1;".repeat(8) + "family 0 1 1;".repeat(4));
        for (int i = 0; i < many; i++) {
            x.saw(i % 4, 1 << i % 8);
        }
        return x;
    }

    private static void seen() {
        Check.terms("SEEN (10 at most): a FAMILY walked on some PIECES (bits).");
        PavedBan x = withSeen(9);
        Check.due("nine", x.count(4), 9);
        Check.due("the tenth", x.saw(3, 128), 10);
        Check.due("ten", x.count(4), 10);
        Check.due("no eleventh", x.saw(3, 128), Check.FULL);
        Check.due("ten still", x.count(4), 10);
        Check.due("forgotten", x.forget(), 10);
        for (int i = 1; i <= 10; i++) {
            Check.due("anew", x.saw(0, 255), i);
        }
        Check.due("no eleventh", x.saw(0, 255), Check.FULL);
        Check.promise(22, "A FAMILY walked on PIECES (bits of such as there are): how much was SEEN.");
        PavedBan y = withSeen(0);
        Check.due("the first family, no pieces", y.saw(0, 0), 1);
        Check.due("the last family, all pieces", y.saw(3, 255), 2);
        Check.due("the first piece", y.saw(1, 1), 3);
        Check.due("the last piece", y.saw(1, 128), 4);
        PavedBan none = Check.of("family 0 1 1;");
        Check.due("no pieces are there", none.saw(0, 0), 1);
        Check.due("a first is not there", none.saw(0, 1), Check.BAD);
        PavedBan stone = Check.of("piece 0 1 1;family 0 1 1;stone 0;");
        Check.due("on a stone", stone.saw(0, 1), 1);
        PavedBan own = Check.of("piece 0 1 1;family 0 1 1;paved 0 0;");
        Check.due("on its own", own.saw(0, 1), 1);
        Check.promise(22, "BAD;");
        Check.bad("the first piece that is not there", z -> z.saw(0, 1 << z.count(0)));
        Check.bad("one that is not there, too", z -> z.saw(0, (2 << z.count(0)) - 1));
        for (int set : new int[] {-1, 256, 512, 1 << 30, Check.LOW, Check.HIGH}) {
            Check.bad("set " + set, z -> z.saw(0, set));
        }
        for (int f : new int[] {-1, 4, Check.LOW, Check.HIGH}) {
            Check.bad("family " + f, z -> z.saw(f, 0));
        }
        Check.bad("the first family that is not there", z -> z.saw(z.count(1), 0));
        Check.promise(22, "FULL.");
        Check.refusedIn(() -> withSeen(10), "an eleventh", z -> z.saw(0, 1), Check.FULL);
        Check.refusedIn(() -> withSeen(10), "an eleventh, of no pieces", z -> z.saw(3, 0), Check.FULL);
        Check.refusedIn(Check::full, "an eleventh", z -> z.saw(2, 255), Check.FULL);
        Check.due("a tenth", withSeen(9).saw(0, 1), 10);
    }

    private static void forget() {
        Check.promise(23, "Nothing was SEEN: how much there was.");
        for (int many = 0; many <= 10; many++) {
            PavedBan x = withSeen(many);
            Check.due("there was", x.forget(), many);
            Check.due("is", x.count(4), 0);
            Check.due("again", x.forget(), 0);
            Check.same("forget", x, withSeen(0));
        }
        Check.refusedIn(PavedBan::new, "a new object", PavedBan::forget, 0);
    }

    private static void fits() {
        Check.terms("FITS: in how many ways all PIECES that are no STONES can have one OWNER each, every FAMILY one PIECE at least,");
        // By pieces and families.
        int[][] want = {{1, 0, 0, 0, 0}, {0, 1, 0, 0, 0}, {0, 1, 2, 0, 0}, {0, 1, 6, 6, 0}, {0, 1, 14, 36, 24},
            {0, 1, 30, 150, 240}, {0, 1, 62, 540, 1560}, {0, 1, 126, 1806, 8400}, {0, 1, 254, 5796, 40824}};
        for (int families = 0; families <= 4; families++) {
            PavedBan x = Check.of("piece 0 1 1;".repeat(8) + "family 0 1 1;".repeat(families));
            for (int pieces = 8; pieces >= 0; pieces--) {
                Check.due(pieces + " no stones by " + families, x.fits(), want[pieces][families]);
                PavedBan y = Check.of("piece 0 1 1;".repeat(pieces) + "family 0 1 1;".repeat(families));
                Check.due(pieces + " pieces by " + families, y.fits(), want[pieces][families]);
                if (pieces > 0) {
                    x.stone(pieces * 3 % 8, 1);
                }
            }
        }
        PavedBan owned = Check.of("piece 0 1 1;piece 0 1 1;family 0 1 1;family 0 1 1;paved 0 0;paved 1 0;");
        Check.due("owners now are not asked", owned.fits(), 2);
        Check.terms("so that nobody walked on own ones.");
        PavedBan x = Check.of("piece 0 1 1;piece 0 1 1;piece 0 1 1;family 0 1 1;family 0 1 1;");
        Check.due("nothing seen", x.fits(), 6);
        x.saw(0, 0);
        Check.due("on none", x.fits(), 6);
        x.saw(0, 1);
        Check.due("one not by 0", x.fits(), 3);
        x.saw(0, 1);
        Check.due("seen twice", x.fits(), 3);
        x.saw(1, 2);
        Check.due("another not by 1", x.fits(), 2);
        x.saw(0, 2);
        Check.due("one by neither", x.fits(), 0);
        x.forget();
        x.stone(0, 1);
        x.saw(0, 1);
        x.saw(1, 1);
        Check.due("on stones all may", x.fits(), 2);
        x.saw(0, 6);
        Check.due("it can own none", x.fits(), 0);
        Check.promise(24, "FITS.");
        Check.due("the most", withSeen(0).fits(), 40824);
        Check.due("none", Check.of("family 0 1 1;").fits(), 0);
        Check.due("a new object", new PavedBan().fits(), 1);
    }

    private static void who() {
        Check.terms("WHO: the only FAMILY that a PIECE can have been paved by in all of these; NONE.");
        PavedBan x = Check.of("piece 0 1 1;piece 0 1 1;piece 0 1 1;family 0 1 1;family 0 1 1;");
        Check.due("either", x.who(0), Check.NONE);
        x.saw(0, 1);
        Check.due("not 0", x.who(0), 1);
        Check.due("either", x.who(1), Check.NONE);
        x.saw(0, 2);
        Check.due("not 0", x.who(1), 1);
        Check.due("0 must have one", x.who(2), 0);
        x.saw(0, 4);
        Check.due("in none of no ways", x.who(2), Check.NONE);
        Check.due("in none of no ways", x.who(0), Check.NONE);
        PavedBan one = Check.of("piece 0 1 1;family 0 1 1;");
        Check.due("the only family there is", one.who(0), 0);
        one.saw(0, 1);
        Check.due("it can't", one.who(0), Check.NONE);
        Check.due("nobody is there", Check.of("piece 0 1 1;").who(0), Check.NONE);
        Check.due("too few pieces", Check.of("piece 0 1 1;family 0 1 1;family 0 1 1;").who(0), Check.NONE);
        Check.promise(25, "WHO; NONE.");
        PavedBan y = withSeen(0);
        y.saw(0, 128);
        y.saw(1, 128);
        y.saw(3, 128);
        Check.due("the last piece", y.who(7), 2);
        y.saw(2, 1);
        y.saw(1, 1);
        y.saw(0, 1);
        Check.due("the first piece, by the last", y.who(0), 3);
        y.pave(0, 0);
        Check.due("owners now are not asked", y.who(0), 3);
        Check.due("another", y.who(4), Check.NONE);
        Check.promise(25, "BAD;");
        for (int p : new int[] {-1, 8, Check.LOW, Check.HIGH}) {
            Check.bad("piece " + p, z -> z.who(p));
        }
        Check.bad("the first piece that is not there", z -> z.who(z.count(0)));
        Check.promise(25, "STATE: it is a STONE.");
        Check.refusedIn(Check::full, "a stone", z -> z.who(4), Check.STATE);
        PavedBan stone = Check.of("piece 0 1 1;stone 0;");
        Check.due("a stone, nobody is there", stone.who(0), Check.STATE);
        stone.stone(0, 0);
        Check.due("a stone no more", stone.who(0), Check.NONE);
    }
}
