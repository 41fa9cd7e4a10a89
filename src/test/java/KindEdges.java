/** Kinds, the trace, images, counts, what is refused first, and how many calls there may be. */
final class KindEdges {
    private static final int[] BODIES = {1, 11, 101, 1011, 10101, 100001};

    private KindEdges() { }

    static void run() {
        kinds();
        bodies();
        mark();
        images();
        readAnew();
        keep();
        back();
        count();
        trace();
        refusedFirst();
        none();
        calls();
    }

    /** 0 owns three pieces of 12 yards in all and goes 4; 3 is cut off; 1 is there; 2 owns one and goes 150. */
    private static PavedBan town() {
        return Check.of("piece 0 1 4;piece 0 1 5;piece 0 1 6;piece 0 1 1;piece 1 2 30;family 1 0 7;family 3 3 1;family 2 1 9;family 5 0 2;"
            + "paved 1 0;paved 2 0;paved 3 0;");
    }

    private static void kinds() {
        Check.terms("KINDS of FAMILIES are over one another: 0 FAMILY; 1 WIDOW, 2 MASON, 5 BACHELOR (each under FAMILY); 3 HEIR (under WIDOW); 4 HIRED (under MASON).");
        Check.terms("MARK of a FAMILY as if of a KIND (numbers in brackets come to THE TRACE as often as mark() asks that body; \"up\" is what the KIND above does):");
        for (int kind = 0; kind <= 5; kind++) {
            PavedBan x = town();
            x.mark(kind, 0);
            Check.due("bodies of kind " + kind, x.trace(), BODIES[kind]);
            x.mark(kind, 3);
            Check.due("bodies of kind " + kind + " twice", x.trace(), 2L * BODIES[kind]);
        }
    }

    private static void bodies() {
        int[][] want = {{7, 1, 9, 2}, {10, 1, 9, 2}, {11, 1, 39, 2}, {20, 2, 18, 4}, {-1, 1, 39, 2}, {8, 4, 11, 7}};
        String[] told = {"FAMILY its TIMES (1).", "WIDOW up, and how many PIECES it owns (10).", "MASON up, and its WAY (NONE: 0) (100).",
            "HEIR up times 2 (1000).", "HIRED up less YARDS of its own PIECES (10000).", "BACHELOR up, and its HOME (100000)."};
        for (int kind = 0; kind <= 5; kind++) {
            Check.terms(told[kind]);
            PavedBan x = town();
            for (int f = 0; f < 4; f++) {
                Check.due("kind " + kind + " of family " + f, x.mark(kind, f), want[kind][f]);
            }
            Check.due("trace", x.trace(), 4L * BODIES[kind]);
        }
        Check.terms("WIDOW up, and how many PIECES it owns (10).");
        PavedBan all = Check.of("piece 0 1 30;".repeat(8) + "family 0 1 9;");
        Check.due("owns none", all.mark(1, 0), 9);
        for (int p = 0; p < 8; p++) {
            all.pave(p, 0);
        }
        Check.due("owns all", all.mark(1, 0), 17);
        Check.due("owns all, heir", all.mark(3, 0), 34);
        Check.terms("MASON up, and its WAY (NONE: 0) (100).");
        Check.due("cut off", all.mark(2, 0), 9);
        PavedBan far = Check.of("piece 0 1 30;piece 1 2 30;piece 2 3 30;piece 3 4 30;piece 4 5 30;family 5 0 9;");
        Check.due("the longest way", far.mark(2, 0), 159);
        Check.due("the longest way, hired", far.mark(4, 0), 159);
        Check.terms("HIRED up less YARDS of its own PIECES (10000).");
        Check.due("owns all, cut off", all.mark(4, 0), 9 - 240);
        Check.terms("BACHELOR up, and its HOME (100000).");
        Check.due("home 5", far.mark(5, 0), 14);
        Check.due("home 0", all.mark(5, 0), 9);
    }

    private static void mark() {
        Check.promise(26, "MARK.");
        PavedBan x = town();
        Check.due("the first kind of the first family", x.mark(0, 0), 7);
        Check.due("the last kind of the last family", x.mark(5, 3), 7);
        Check.promise(26, "NO: BAD.");
        for (int kind : new int[] {-1, 6, 7, Check.LOW, Check.HIGH}) {
            Check.refused("kind " + kind, y -> y.mark(kind, 0), Check.NO);
        }
        for (int kind = 0; kind <= 5; kind++) {
            int asked = kind;
            Check.refused("the first family that is not there", y -> y.mark(asked, y.count(1)), Check.NO);
            for (int f : new int[] {-1, 4, Check.LOW, Check.HIGH}) {
                Check.refused("family " + f, y -> y.mark(asked, f), Check.NO);
            }
        }
    }

    /** Something of all that an image keeps. */
    private static PavedBan kept(int image) {
        PavedBan x = Check.of("piece 0 1 1;".repeat(8) + "family 0 1 1;".repeat(4));
        x.pave(0, 3);
        x.pave(7, 0);
        x.stone(6, 1);
        x.flood(5, 9);
        x.saw(2, 1);
        x.keep(image);
        return x;
    }

    private static void images() {
        Check.terms("IMAGES 0, 1 keep NOW (OWNERS, STONES, FLOODS, what was SEEN); nothing else.");
        for (int image = 0; image <= 1; image++) {
            PavedBan x = kept(image);
            x.pave(0, 1);
            x.free(7);
            x.stone(1, 1);
            x.stone(6, 0);
            x.flood(5, 0);
            x.flood(4, 3);
            x.forget();
            x.back(image);
            Check.same("back to what was", x, kept(image));
            PavedBan y = kept(image);
            y.mark(5, 0);
            Check.typeAll(y, "piece");
            y.back(image);
            Check.due("the trace stays", y.trace(), 100001);
            Check.due("the text stays", y.count(5), 5);
            PavedBan z = kept(image);
            Check.due("the other was not kept", z.back(1 - image), Check.STATE);
            z.stone(0, 1);
            z.saw(0, 255);
            z.keep(1 - image);
            Check.due("this one", z.back(image), 2);
            Check.due("its owner", z.piece(0, 3), 3);
            Check.due("its seen", z.count(4), 1);
            Check.due("the other", z.back(1 - image), 1);
            Check.due("its stone", z.piece(0, 4), 1);
            Check.due("its seen", z.count(4), 2);
        }
    }

    private static void readAnew() {
        Check.terms("(Read anew: NOW is as told, nothing SEEN, IMAGES are gone.)");
        PavedBan x = Check.full();
        x.clear();
        Check.typeAll(x, "piece 0 1 1;piece 0 1 2;family 0 1 1;family 0 1 1;paved 1 1;flood 1 2;");
        Check.due("town", x.town(), 6);
        int[][] want = {{Check.NONE, 0, 0}, {1, 0, 2}};
        for (int p = 0; p < 2; p++) {
            for (int what = 3; what <= 5; what++) {
                Check.due("as told, " + p + " " + what, x.piece(p, what), want[p][what - 3]);
            }
        }
        Check.due("nothing seen", x.count(4), 0);
        Check.due("nothing seen", x.fits(), 2);
        Check.due("image 0 is gone", x.back(0), Check.STATE);
        Check.due("image 1 is gone", x.back(1), Check.STATE);
        Check.due("ways anew", x.way(0), 1);
        Check.due("ways anew", x.way(1), 1);
        Check.due("one each anew", x.one(0, -1), 3);
        Check.due("all anew", x.all(-1), 3);
        PavedBan same = Check.of("piece 0 1 1;piece 0 1 2;family 0 1 1;family 0 1 1;paved 1 1;flood 1 2;");
        same.mark(5, 0);
        Check.same("a town read anew", x, same);
        PavedBan none = Check.full();
        none.clear();
        none.town();
        PavedBan fresh = new PavedBan();
        Check.due("nothing told, image 0", none.back(0), Check.STATE);
        for (int what = 0; what <= 5; what++) {
            Check.due("nothing told, count " + what, none.count(what), fresh.count(what));
        }
        Check.due("nothing told, always", none.always(), 0);
        PavedBan told = Check.of("piece 0 1 1;piece 0 1 1;family 0 1 1;paved 0 0;stone 1;flood 0 9;flood 1 8;");
        Check.typeAll(told, "piece 0 1 1;piece 0 1 1;family 0 1 1;");
        told.town();
        Check.same("what the text ahead told is gone", told, Check.of("piece 0 1 1;piece 0 1 1;family 0 1 1;"));
        notFromMemory();
    }

    /** What was asked of the town ahead is asked of the new one at once. */
    private static void notFromMemory() {
        Check.Call[] asked = {x -> x.way(0), x -> x.one(0, -1), x -> x.one(1, -1), x -> x.all(-1), x -> x.judge(0)};
        for (Check.Call call : asked) {
            PavedBan x = new PavedBan();
            for (int far : new int[] {3, 8, 1, 30}) {
                Check.typeAll(x, "piece 0 1 " + far + ";piece 0 1 " + far + ";family 0 1 1;stone 1;");
                x.town();
                Check.due("asked of each town", call.of(x), far);
                Check.due("asked again", call.of(x), far);
            }
        }
    }

    private static void keep() {
        Check.promise(27, "An IMAGE is kept: how many PIECES have OWNERS.");
        for (int image = 0; image <= 1; image++) {
            PavedBan x = Check.of("piece 0 1 1;".repeat(8) + "family 0 1 1;");
            for (int p = 0; p < 8; p++) {
                Check.due("owners", x.keep(image), p);
                x.pave(p, 0);
            }
            Check.due("all have owners", x.keep(image), 8);
            x.free(0);
            x.stone(1, 1);
            Check.due("a stone has none", x.keep(image), 6);
            x.pave(0, 0);
            Check.due("the last that was kept", x.back(image), 6);
            Check.due("a new object", new PavedBan().keep(image), 0);
        }
        Check.promise(27, "BAD.");
        for (int image : new int[] {-1, 2, 3, Check.LOW, Check.HIGH}) {
            Check.bad("image " + image, y -> y.keep(image));
        }
    }

    private static void back() {
        Check.promise(28, "All of that becomes as an IMAGE has it: how many PIECES have OWNERS.");
        for (int image = 0; image <= 1; image++) {
            PavedBan x = kept(image);
            Check.due("at once", x.back(image), 2);
            Check.same("back at once", x, kept(image));
            PavedBan y = kept(image);
            for (int often = 0; often < 3; often++) {
                // What is changed behind it does not come to the image.
                y.pave(3, 1);
                y.stone(0, 1);
                y.flood(5, 1);
                y.saw(0, 3);
                Check.due("again", y.back(image), 2);
            }
            Check.same("back again", y, kept(image));
            PavedBan none = Check.of("piece 0 1 1;family 0 1 1;");
            none.keep(image);
            none.pave(0, 0);
            Check.due("no owners", none.back(image), 0);
        }
        Check.promise(28, "BAD;");
        for (int image : new int[] {-1, 2, 3, Check.LOW, Check.HIGH}) {
            Check.bad("image " + image, y -> y.back(image));
        }
        Check.promise(28, "STATE: none was kept.");
        Check.refusedIn(PavedBan::new, "image 0", y -> y.back(0), Check.STATE);
        Check.refusedIn(PavedBan::new, "image 1", y -> y.back(1), Check.STATE);
        Check.refusedIn(Check::small, "image 1, 0 was kept", y -> y.back(1), Check.STATE);
        Check.refusedIn(() -> kept(1), "image 0, 1 was kept", y -> y.back(0), Check.STATE);
    }

    private static void count() {
        Check.promise(29, "0 PIECES, 1 FAMILIES, 2 PIECES that have OWNERS, 3 STONES, 4 SEEN, 5 bytes of THE TEXT.");
        int[][] want = {{0, 0, 0, 0, 0, 0}, {3, 2, 2, 0, 2, 33}, {8, 4, 3, 2, 10, 300}};
        PavedBan[] states = {new PavedBan(), Check.small(), Check.full()};
        for (int i = 0; i < 3; i++) {
            for (int what = 0; what <= 5; what++) {
                Check.due("state " + i + ", count " + what, states[i].count(what), want[i][what]);
                int asked = what;
                Check.changesNothing("count", y -> y.count(asked));
            }
        }
        PavedBan x = Check.of("piece 0 1 1;".repeat(8) + "family 0 1 1;");
        for (int p = 0; p < 8; p++) {
            x.pave(p, 0);
            Check.due("have owners", x.count(2), p + 1);
        }
        for (int p = 0; p < 8; p++) {
            x.stone(p, 1);
            Check.due("stones", x.count(3), p + 1);
            Check.due("have owners", x.count(2), 7 - p);
        }
        Check.promise(29, "BAD.");
        for (int what : new int[] {-1, 6, 7, Check.LOW, Check.HIGH}) {
            Check.bad("count " + what, y -> y.count(what));
        }
    }

    private static void trace() {
        Check.promise(30, "THE TRACE.");
        PavedBan x = town();
        Check.due("at first", x.trace(), 0);
        // No other call asks a body.
        x.way(0);
        x.judge(0);
        x.family(0, 2);
        x.family(0, 3);
        x.one(0, -1);
        x.all(-1);
        Check.due("still", x.trace(), 0);
        long sum = 0;
        for (int kind = 5; kind >= 0; kind--) {
            x.mark(kind, 1);
            sum += BODIES[kind];
            Check.due("behind kind " + kind, x.trace(), sum);
        }
        Check.changesNothing("trace", PavedBan::trace);
        x.keep(0);
        x.mark(0, 0);
        x.back(0);
        x.town();
        Check.due("neither images nor texts touch it", x.trace(), sum + 1);
    }

    private static void refusedFirst() {
        Check.terms("Refused, and nothing changes, the first of these: BAD (a number is not as told, or there is no such thing), STATE (as told), FULL.");
        Check.refusedIn(Check::full, "pave: BAD ahead of STATE", x -> x.pave(4, -1), Check.BAD);
        Check.refusedIn(Check::full, "pave: BAD ahead of STATE", x -> x.pave(4, 4), Check.BAD);
        Check.refusedIn(Check::full, "type: BAD ahead of FULL", x -> x.type(0x20, 0), Check.BAD);
        Check.refusedIn(Check::full, "type: BAD ahead of FULL", x -> x.type(0x20, 9), Check.BAD);
        Check.refusedIn(Check::full, "saw: BAD ahead of FULL", x -> x.saw(4, 1), Check.BAD);
        Check.refusedIn(Check::full, "saw: BAD ahead of FULL", x -> x.saw(0, 256), Check.BAD);
        Check.refusedIn(PavedBan::new, "back: BAD ahead of STATE", x -> x.back(2), Check.BAD);
        Check.refusedIn(PavedBan::new, "free: BAD ahead of STATE", x -> x.free(0), Check.BAD);
        Check.refusedIn(PavedBan::new, "who: BAD ahead of STATE", x -> x.who(0), Check.BAD);
    }

    private static void none() {
        Check.terms("The constants: NO = -1000000: What none is, where a number may be below 0.");
        Check.due("NO", PavedBan.NO, -1000000);
        Check.due("BAD", PavedBan.BAD, -1);
        Check.due("STATE", PavedBan.STATE, -2);
        Check.due("FULL", PavedBan.FULL, -3);
        Check.due("NONE", PavedBan.NONE, -9);
        // Marks that look like refusals, and the least that there is.
        int[] yards = {2, 3, 4, 6, 10};
        for (int y : yards) {
            PavedBan x = Check.of("piece 0 1 " + y + ";family 3 3 1;paved 0 0;");
            Check.due("a mark below 0", x.mark(4, 0), 1 - y);
        }
        PavedBan least = Check.of("piece 0 1 30;".repeat(8) + "family 3 3 1;");
        for (int p = 0; p < 8; p++) {
            least.pave(p, 0);
        }
        Check.due("the least mark", least.mark(4, 0), 1 - 240);
    }

    private static void calls() {
        Check.quote("What it is", "An object is used for at most 512 calls after it has been made;");
        PavedBan x = new PavedBan();
        String text = "piece 0 1 1;family 5 5 9;paved 0 0;";
        Check.typeAll(x, text);
        x.town();
        int made = (text.length() + 7) / 8 + 1;
        long sum = 0;
        while (made < 511) {
            Check.due("call " + made, x.mark(5, 0), 14);
            sum += 100001;
            made++;
        }
        Check.due("the 512th", x.trace(), sum);
        PavedBan y = new PavedBan();
        for (int call = 1; call <= 511; call++) {
            Check.due("call " + call, y.type(0x20, 1), call <= 300 ? call : Check.FULL);
        }
        Check.due("the 512th", y.town(), 0);
        PavedBan z = Check.of("piece 0 1 1;piece 0 1 2;family 0 1 1;");
        for (int call = 6; call < 510; call += 2) {
            Check.due("image", z.keep(call / 2 % 2), call == 6 ? 0 : 1);
            Check.due("owner", z.pave(1, 0), call == 6 ? Check.NONE : 0);
        }
        Check.due("the 511th", z.back(0), 1);
        Check.due("the 512th", z.all(-1), Check.NONE);
    }
}
