/** Ways, their places, poles, what is judged. */
final class WayEdges {
    /** Places 0 to 5 in a row, as far apart as they may be. */
    private static final String ROW = "piece 0 1 30;piece 1 2 30;piece 2 3 30;piece 3 4 30;piece 4 5 30;";

    private WayEdges() { }

    static void run() {
        ways();
        cutOff();
        places();
        poles();
        judged();
        way();
        place();
        pole();
        judge();
    }

    private static void ways() {
        Check.terms("WAY of a FAMILY: the fewest YARDS from its HOME to where it must get TO by PIECES it does not own;");
        PavedBan x = Check.of("piece 0 1 10;piece 0 2 5;piece 2 1 4;piece 0 1 11;family 0 1 1;family 1 0 1;");
        Check.due("two pieces, one yard less", x.way(0), 9);
        x.pave(2, 0);
        Check.due("not by its own", x.way(0), 10);
        Check.due("another's does not matter", x.way(1), 9);
        x.pave(0, 0);
        Check.due("the one that is left", x.way(0), 11);
        x.stone(2, 1);
        Check.due("a stone is nobody's", x.way(0), 9);
        x.flood(1, 9);
        Check.due("floods do not matter", x.way(0), 9);
        Check.due("the shortest there is", Check.of("piece 0 1 1;family 0 1 1;").way(0), 1);
        Check.due("the longest there is", Check.of(ROW + "family 0 5 9;").way(0), 150);
        Check.due("the longest there is, back", Check.of(ROW + "family 5 0 9;").way(0), 150);
    }

    private static void cutOff() {
        Check.terms("NONE: it is CUT OFF");
        PavedBan x = Check.of("piece 0 1 1;piece 2 3 1;family 0 1 1;family 0 2 1;family 4 5 1;");
        Check.due("by nothing yet", x.way(0), 1);
        x.pave(0, 0);
        Check.due("by its own piece", x.way(0), Check.NONE);
        x.free(0);
        Check.due("no more", x.way(0), 1);
        Check.due("no piece there", x.way(1), Check.NONE);
        Check.due("no piece at home", x.way(2), Check.NONE);
        Check.due("no pieces at all", Check.of("family 0 1 1;").way(0), Check.NONE);
        Check.terms("(0: it is there).");
        PavedBan y = Check.of("piece 3 4 1;family 3 3 9;family 0 0 1;");
        Check.due("it is there", y.way(0), 0);
        y.pave(0, 0);
        Check.due("among own pieces", y.way(0), 0);
        Check.due("where no piece is", y.way(1), 0);
        Check.due("no pieces at all", Check.of("family 5 5 1;").way(0), 0);
    }

    private static void places() {
        Check.terms("Its PLACES: of all such ways the one with the fewest PIECES, of these the first by PLACES.");
        // Three ways of 6 yards: by 1 and 2 (three pieces), by 4, by 5 (two pieces each); 8 yards straight on.
        PavedBan x = Check.of("piece 0 1 1;piece 1 2 1;piece 2 3 4;piece 0 5 3;piece 5 3 3;piece 0 4 3;piece 4 3 3;piece 0 3 8;"
            + "family 0 3 1;family 3 0 1;");
        expect(x, 0, 0, 4, 3);
        expect(x, 1, 3, 4, 0);
        x.pave(5, 0);
        expect(x, 0, 0, 5, 3);
        expect(x, 1, 3, 4, 0);
        x.pave(4, 0);
        expect(x, 0, 0, 1, 2, 3);
        x.pave(0, 0);
        expect(x, 0, 0, 3);
        // Fewest yards go ahead of fewest pieces; the second place decides where the first is alike.
        PavedBan y = Check.of("piece 0 5 9;piece 0 1 2;piece 1 4 3;piece 1 3 3;piece 4 5 3;piece 3 5 3;family 0 5 1;family 5 0 1;");
        expect(y, 0, 0, 1, 3, 5);
        expect(y, 1, 5, 3, 1, 0);
        PavedBan z = Check.of("piece 0 5 8;piece 0 1 2;piece 1 4 3;piece 1 3 3;piece 4 5 3;piece 3 5 3;family 0 5 1;");
        expect(z, 0, 0, 5);
        // Piece 1 is not at place 3, though a way by it from 0 would be as short.
        PavedBan apart = Check.of("piece 0 5 1;piece 1 2 5;piece 3 4 3;piece 4 5 3;family 3 5 1;");
        expect(apart, 0, 3, 4, 5);
    }

    private static void expect(PavedBan x, int f, int... places) {
        for (int i = 0; i < places.length; i++) {
            Check.due("place " + i + " of family " + f, x.place(f, i), places[i]);
        }
        Check.due("behind the last", x.place(f, places.length), Check.LACKING);
    }

    private static void poles() {
        Check.terms("By a POLE (0 .. 30) it may go over own PIECES of so many YARDS at most, too.");
        for (int yards = 1; yards <= 30; yards++) {
            PavedBan x = Check.of("piece 0 1 " + yards + ";family 0 1 1;paved 0 0;");
            Check.due("one yard less than " + yards, x.pole(0, yards - 1), Check.NONE);
            Check.due("just " + yards, x.pole(0, yards), yards);
            Check.due("the longest", x.pole(0, 30), yards);
            Check.due("no pole", x.pole(0, 0), Check.NONE);
        }
        PavedBan x = Check.of("piece 0 1 30;family 0 1 1;family 1 0 1;paved 0 0;");
        Check.due("another's piece needs none", x.pole(1, 0), 30);
        Check.due("there", Check.of("family 0 0 1;").pole(0, 0), 0);
        Check.due("no piece to go over", Check.of("family 0 1 1;").pole(0, 30), Check.NONE);
    }

    private static void judged() {
        Check.terms("COST of a FAMILY: its WAY times TIMES.");
        Check.due("the least", Check.of("piece 0 1 1;family 0 1 1;").judge(0), 1);
        Check.due("times 9", Check.of("piece 0 1 7;family 0 1 9;").judge(0), 63);
        Check.due("there", Check.of("family 0 0 9;").judge(0), 0);
        Check.terms("JUDGED: COSTS of all added (NONE: some are CUT OFF);");
        PavedBan most = Check.of(ROW + "family 0 5 9;".repeat(4));
        Check.due("the most", most.judge(0), 4 * 9 * 150);
        PavedBan x = Check.of("piece 0 1 30;piece 1 2 2;family 0 1 1;family 1 2 5;family 3 3 9;family 0 2 1;");
        Check.due("all", x.judge(0), 30 + 10 + 32);
        x.pave(1, 1);
        Check.due("one is cut off", x.judge(0), Check.NONE);
        Check.terms("the longest WAY (NONE likewise; no FAMILIES: 0 both);");
        Check.due("one is cut off", x.judge(1), Check.NONE);
        x.free(1);
        Check.due("the longest, not the dearest", x.judge(1), 32);
        Check.due("the longest there is", most.judge(1), 150);
        PavedBan none = Check.of("piece 0 1 1;");
        Check.due("no families: costs", none.judge(0), 0);
        Check.due("no families: longest", none.judge(1), 0);
        Check.terms("who is CUT OFF.");
        Check.due("no families: nobody", none.judge(2), 0);
        Check.due("nobody", x.judge(2), 0);
        x.pave(1, 3);
        Check.due("the last", x.judge(2), 8);
        x.pave(0, 0);
        Check.due("the first and the last", x.judge(2), 9);
        Check.due("all four", Check.of("family 0 1 1;".repeat(4)).judge(2), 15);
    }

    private static void way() {
        Check.promise(11, "WAY; NONE.");
        PavedBan x = Check.of("piece 0 1 4;family 0 1 1;family 1 1 1;family 0 0 1;family 0 2 1;");
        int[] want = {4, 0, 0, Check.NONE};
        for (int f = 0; f < 4; f++) {
            Check.due("way " + f, x.way(f), want[f]);
            int asked = f;
            Check.changesNothing("way", y -> y.way(asked));
        }
        Check.promise(11, "BAD.");
        for (int f : new int[] {-1, 4, Check.LOW, Check.HIGH}) {
            Check.bad("way " + f, y -> y.way(f));
        }
        Check.bad("the first family that is not there", y -> y.way(y.count(1)));
    }

    private static void place() {
        Check.promise(12, "The i-th PLACE of its WAY (0: HOME);");
        PavedBan x = Check.of(ROW + "family 0 5 1;family 5 0 1;family 2 2 1;family 1 3 1;");
        for (int i = 0; i <= 5; i++) {
            Check.due("there, " + i, x.place(0, i), i);
            Check.due("back, " + i, x.place(1, i), 5 - i);
            int asked = i;
            Check.changesNothing("place", y -> y.place(0, asked));
        }
        Check.due("there already", x.place(2, 0), 2);
        Check.promise(12, "NONE: it is CUT OFF;");
        x.pave(1, 3);
        for (int i : new int[] {0, 1, 5, 6, Check.HIGH}) {
            Check.due("cut off, " + i, x.place(3, i), Check.NONE);
        }
        Check.promise(12, "-5: not so many.");
        for (int i : new int[] {6, 7, 15, 16, 31, 32, Check.HIGH}) {
            Check.due("not so many, " + i, x.place(0, i), Check.LACKING);
        }
        Check.due("there already, 1", x.place(2, 1), Check.LACKING);
        Check.due("there already, highest", x.place(2, Check.HIGH), Check.LACKING);
        Check.promise(12, "BAD (i below 0).");
        for (int i : new int[] {-1, -2, Check.LOW}) {
            Check.bad("i " + i, y -> y.place(0, i));
            Check.due("i " + i + " of who is cut off", x.place(3, i), Check.BAD);
        }
        for (int f : new int[] {-1, 4, Check.LOW, Check.HIGH}) {
            Check.bad("family " + f, y -> y.place(f, 0));
        }
        Check.bad("the first family that is not there", y -> y.place(y.count(1), 0));
    }

    private static void pole() {
        Check.promise(13, "WAY by a POLE; NONE.");
        PavedBan x = Check.of("piece 0 1 4;piece 1 2 7;piece 0 2 30;family 0 2 1;paved 0 0;paved 1 0;");
        int[] widths = {0, 3, 4, 6, 7, 30};
        int[] want = {30, 30, 30, 30, 11, 11};
        for (int i = 0; i < widths.length; i++) {
            Check.due("pole " + widths[i], x.pole(0, widths[i]), want[i]);
            int width = widths[i];
            Check.changesNothing("pole", y -> y.pole(0, width));
        }
        x.pave(2, 0);
        Check.due("cut off by this pole", x.pole(0, 6), Check.NONE);
        Check.due("not by this", x.pole(0, 7), 11);
        Check.due("the way is as it was", x.way(0), Check.NONE);
        Check.promise(13, "BAD.");
        for (int width : new int[] {-1, 31, 32, Check.LOW, Check.HIGH}) {
            Check.bad("width " + width, y -> y.pole(0, width));
        }
        for (int f : new int[] {-1, 4, Check.LOW, Check.HIGH}) {
            Check.bad("family " + f, y -> y.pole(f, 5));
        }
        Check.bad("the first family that is not there", y -> y.pole(y.count(1), 5));
    }

    private static void judge() {
        Check.promise(14, "JUDGED: 0 COSTS, 1 the longest WAY (NONE), 2 who is CUT OFF (bits).");
        PavedBan x = Check.of("piece 0 1 4;piece 1 2 7;family 0 1 3;family 1 2 1;");
        int[] want = {19, 7, 0};
        int[] then = {Check.NONE, Check.NONE, 2};
        for (int what = 0; what <= 2; what++) {
            Check.due("judge " + what, x.judge(what), want[what]);
            int asked = what;
            Check.changesNothing("judge", y -> y.judge(asked));
        }
        x.pave(1, 1);
        for (int what = 0; what <= 2; what++) {
            Check.due("cut off, judge " + what, x.judge(what), then[what]);
        }
        Check.promise(14, "BAD.");
        for (int what : new int[] {-1, 3, 4, Check.LOW, Check.HIGH}) {
            Check.bad("judge " + what, y -> y.judge(what));
        }
    }
}
