/** The text: what it may hold, where its fault is, and the calls that type, empty and read it. */
final class TextEdges {
    private static final String[] WORDS = {"piece", "family", "paved", "stone", "flood"};
    private static final String PIECE = "piece 0 1 1;", FAMILY = "family 0 1 1;";
    /** Of 25 bytes. */
    private static final String ONE_OF_BOTH = PIECE + FAMILY;

    private TextEdges() { }

    static void run() {
        places();
        pieces();
        families();
        bytes();
        blanks();
        items();
        toldThings();
        later();
        letters();
        digits();
        faults();
        numbersBeyond();
        wrongTokens();
        endsEarly();
        type();
        clear();
        town();
    }

    private static void places() {
        Check.quote("What it is", "PLACES 0 ..");
        Check.terms("5.");
        PavedBan x = Check.good("piece 0 5 1;piece 5 0 2;family 0 5 1;family 5 0 1;", 4);
        Check.due("A 0", x.piece(0, 0), 0);
        Check.due("B 5", x.piece(0, 1), 5);
        Check.due("A 5", x.piece(1, 0), 5);
        Check.due("B 0", x.piece(1, 1), 0);
        Check.fault("piece 6 0 1;", 6);
        Check.fault("piece 0 6 1;", 8);
        Check.fault("family 6 0 1;", 7);
        Check.fault("family 0 6 1;", 9);
        PavedBan all = Check.good("piece 0 1 1;piece 1 2 1;piece 2 3 1;piece 3 4 1;piece 4 5 1;family 0 5 1;", 6);
        for (int place = 0; place <= 5; place++) {
            Check.due("place " + place, all.place(0, place), place);
        }
        Check.terms("join two PLACES, both ways,");
        PavedBan two = Check.good("piece 1 4 7;family 1 4 1;family 4 1 1;", 3);
        Check.due("one way", two.way(0), 7);
        Check.due("the other way", two.way(1), 7);
        Check.terms("have a HOME, a PLACE they must get TO,");
        PavedBan home = Check.good("family 0 5 1;family 5 0 1;family 3 3 1;", 3);
        int[][] want = {{0, 5}, {5, 0}, {3, 3}};
        for (int f = 0; f < 3; f++) {
            Check.due("home of " + f, home.family(f, 0), want[f][0]);
            Check.due("to of " + f, home.family(f, 1), want[f][1]);
        }
    }

    private static void pieces() {
        Check.terms("PIECES 0 .. (8 at most)");
        Check.due("none", Check.good(FAMILY, 1).count(0), 0);
        PavedBan x = Check.good(PIECE.repeat(7) + "piece 4 5 29;", 8);
        Check.due("eight", x.count(0), 8);
        Check.due("the last", x.piece(7, 2), 29);
        Check.terms("a ninth piece,");
        Check.fault(PIECE.repeat(9), 96);
        Check.fault(PIECE.repeat(8) + "piece", 96);
        Check.fault(PIECE.repeat(8) + FAMILY + "   piece 0 0;", 112);
        Check.terms("by so many YARDS (1 .. 30).");
        Check.fault("piece 0 1 0;", 10);
        Check.due("1", Check.good("piece 0 1 1;", 1).piece(0, 2), 1);
        Check.due("30", Check.good("piece 0 1 30;", 1).piece(0, 2), 30);
        Check.fault("piece 0 1 31;", 10);
        Check.terms("piece A B Y (A, B not one and the same) ;");
        PavedBan y = Check.good("piece 2 3 17;", 1);
        Check.due("A", y.piece(0, 0), 2);
        Check.due("B", y.piece(0, 1), 3);
        Check.due("Y", y.piece(0, 2), 17);
        Check.fault("piece ;", 6);
        Check.fault("piece 0;", 7);
        Check.fault("piece 0 1;", 9);
        Check.fault("piece 0 1 1 1;", 12);
        Check.terms("a B that is A,");
        for (int place = 0; place <= 5; place++) {
            Check.fault("piece " + place + " " + place + " 1;", 8);
            Check.good("piece " + place + " " + (place + 1) % 6 + " 1;", 1);
        }
    }

    private static void families() {
        Check.terms("FAMILIES 0 .. (4 at most)");
        Check.due("none", Check.good(PIECE, 1).count(1), 0);
        PavedBan x = Check.good(FAMILY.repeat(3) + "family 4 5 7;", 4);
        Check.due("four", x.count(1), 4);
        Check.due("the last", x.family(3, 2), 7);
        Check.terms("a fifth family,");
        Check.fault(FAMILY.repeat(5), 52);
        Check.fault(FAMILY.repeat(4) + "family", 52);
        Check.fault(FAMILY.repeat(4) + PIECE + "  family 9;", 66);
        Check.terms("so many TIMES (1 .. 9).");
        Check.fault("family 0 1 0;", 11);
        Check.due("1", Check.good("family 0 1 1;", 1).family(0, 2), 1);
        Check.due("9", Check.good("family 0 1 9;", 1).family(0, 2), 9);
        Check.fault("family 0 1 10;", 11);
        Check.terms("family H T N ;");
        Check.fault("family ;", 7);
        Check.fault("family 0;", 8);
        Check.fault("family 0 1;", 10);
        Check.fault("family 0 1 1 1;", 13);
    }

    private static void bytes() {
        Check.terms("They are a text (300 bytes at most), read byte by byte,");
        String most = PIECE.repeat(8) + FAMILY.repeat(4) + "paved 7 3;".repeat(14);
        String last = most + "  flood 7 9;";
        Check.due("the last byte counts", Check.good(last, 27).piece(7, 5), 9);
        Check.fault(last.substring(0, 299) + " ", 300);
        Check.fault(last.substring(0, 299) + "?", 299);
        Check.fault(last.substring(0, 299) + "x", 299);
        Check.good(Check.signs(' ', 300), 0);
        Check.fault(Check.signs(' ', 299) + ";", 299);
        for (int part = 1; part <= 8; part++) {
            PavedBan x = new PavedBan();
            for (int from = 0; from < 300; from += part) {
                String some = last.substring(from, Math.min(300, from + part));
                x.type(Check.number(some), some.length());
            }
            Check.due("typed by " + part, x.town(), 27);
        }
    }

    private static void blanks() {
        Check.terms("blanks (32) between TOKENS;");
        Check.good("  piece   0  1 1  ;   family 0 1 1 ;  ", 2);
        Check.good("piece 0 1 1;family 0 1 1;paved 0 0;", 3);
        Check.good(" ", 0);
        for (int sign : new int[] {0, 9, 10, 11, 12, 13, 31, 33, 160, 255}) {
            Check.fault((char) sign + PIECE, 0);
            Check.fault("piece" + (char) sign + "0 1 1;", 5);
            Check.fault("piece 0" + (char) sign + "1 1;", 7);
            Check.fault("piece 0 1 1" + (char) sign + ";", 11);
            Check.fault(PIECE + (char) sign, 12);
        }
        Check.fault("pie ce 0 1 1;", 0);
        Check.fault("piece 0 1 1 0;", 12);
    }

    private static void items() {
        Check.terms("ITEMS, each ended by ; :");
        Check.good("", 0);
        Check.good(PIECE, 1);
        Check.good(PIECE + PIECE, 2);
        Check.fault("piece 0 1 1 piece 0 1 1;", 12);
        Check.fault("piece 0 1 1;;", 12);
        Check.fault(";", 0);
        Check.fault(";" + PIECE, 0);
        Check.fault(PIECE + "piece 0 1 1", 23);
    }

    private static void toldThings() {
        Check.terms("paved P F, stone P, flood P N (PIECES, FAMILIES that were told;");
        Check.fault("paved 0 0;", 6);
        Check.fault("stone 0;", 6);
        Check.fault("flood 0 0;", 6);
        Check.fault("family 0 1 1;paved 0 0;" + PIECE, 19);
        Check.fault("stone 0;" + PIECE, 6);
        Check.fault("flood 0 1;" + PIECE, 6);
        Check.fault(PIECE + "paved 0 0;" + FAMILY, 20);
        Check.good(ONE_OF_BOTH + "paved 0 0;", 3);
        Check.fault(ONE_OF_BOTH + "paved 1 0;", 31);
        Check.fault(ONE_OF_BOTH + "paved 0 1;", 33);
        Check.good(PIECE + "stone 0;", 2);
        Check.fault(PIECE + "stone 1;", 18);
        Check.good(PIECE + "flood 0 0;", 2);
        Check.fault(PIECE + "flood 1 0;", 18);
        String all = PIECE.repeat(8) + FAMILY.repeat(4);
        PavedBan x = Check.good(all + "paved 7 3;stone 6;flood 7 9;flood 6 8;", 16);
        Check.due("the last, by the last", x.piece(7, 3), 3);
        Check.due("a stone", x.piece(6, 4), 1);
        Check.due("flood", x.piece(7, 5), 9);
        Check.due("flood of a stone", x.piece(6, 5), 8);
        Check.fault(all + "paved 8 3;", 154);
        Check.fault(all + "paved 7 4;", 156);
        Check.fault(all + "stone 8;", 154);
        Check.fault(all + "flood 8 9;", 154);
        for (String word : new String[] {"paved", "stone", "flood"}) {
            Check.fault(ONE_OF_BOTH + word + ";", 30);
            Check.fault(ONE_OF_BOTH + word + " 0 0 0;", word.equals("stone") ? 33 : 35);
        }
        Check.fault(ONE_OF_BOTH + "paved 0;", 32);
        Check.fault(ONE_OF_BOTH + "flood 0;", 32);
    }

    private static void later() {
        Check.terms("of one PIECE what is told later counts: paved is no STONE, a STONE is nobody's).");
        String town = PIECE + PIECE + FAMILY + FAMILY;
        String[] told = {"paved 0 0;paved 0 1;", "paved 0 0;stone 0;", "stone 0;paved 0 1;", "stone 0;stone 0;",
            "flood 0 9;flood 0 0;", "flood 0 9;stone 0;", "flood 0 9;paved 0 0;", "stone 0;flood 0 9;", "paved 0 1;flood 0 9;"};
        int[][] want = {{1, 0, 0}, {Check.NONE, 1, 0}, {1, 0, 0}, {Check.NONE, 1, 0},
            {Check.NONE, 0, 0}, {Check.NONE, 1, 9}, {0, 0, 9}, {Check.NONE, 1, 9}, {1, 0, 9}};
        for (int i = 0; i < told.length; i++) {
            PavedBan x = Check.good(town + told[i], 6);
            Check.due("owner by " + told[i], x.piece(0, 3), want[i][0]);
            Check.due("stone by " + told[i], x.piece(0, 4), want[i][1]);
            Check.due("flood by " + told[i], x.piece(0, 5), want[i][2]);
            Check.due("owner of another by " + told[i], x.piece(1, 3), Check.NONE);
            Check.due("stone of another by " + told[i], x.piece(1, 4), 0);
            Check.due("flood of another by " + told[i], x.piece(1, 5), 0);
        }
    }

    private static void letters() {
        Check.terms("TOKENS are words of letters a .. z (piece, family, paved, stone, flood), NUMBERS and ; .");
        Check.good(ONE_OF_BOTH + "paved 0 0;stone 0;flood 0 1;", 5);
        for (int sign = 0; sign < 256; sign++) {
            boolean blank = sign == ' ';
            boolean letter = sign >= 'a' && sign <= 'z';
            if (blank) {
                Check.good(" ", 0);
                Check.fault("piece ", 6);
            } else {
                Check.fault("" + (char) sign, 0);
                // A letter more makes another word of it; a digit is where A should be.
                Check.fault("piece" + (char) sign, letter ? 0 : sign >= '0' && sign <= '5' ? 6 : 5);
            }
        }
        Check.fault("a", 0);
        Check.fault("z", 0);
        Check.fault("`piece 0 1 1;", 0);
        Check.fault("piece{ 0 1 1;", 5);
        Check.fault("Piece 0 1 1;", 0);
        Check.fault("piecE 0 1 1;", 0);
    }

    private static void digits() {
        Check.terms("TOKENS are words of letters a .. z (piece, family, paved, stone, flood), NUMBERS and ; .");
        for (int sign = 0; sign < 256; sign++) {
            String text = "piece 0 1 1" + (char) sign;
            if (sign == ';') {
                Check.good(text, 1);
            } else {
                boolean goesOn = sign == ' ' || sign >= '0' && sign <= '9';
                Check.fault(text, goesOn ? 12 : 11);
            }
        }
        for (int yards = 1; yards <= 30; yards++) {
            Check.due("yards", Check.of("piece 0 1 " + yards + ";").piece(0, 2), yards);
        }
    }

    private static void faults() {
        Check.terms("FAULT: the place of the first byte of the first TOKEN that can't stand there");
        Check.fault("5", 0);
        Check.fault("   99 ;", 3);
        Check.fault("piece piece 1 1;", 6);
        Check.fault("piece 0 stone 1;", 8);
        Check.fault("piece 0 1 family;", 10);
        Check.fault("piece 0 1 1 flood;", 12);
        Check.fault("family paved 0 1;", 7);
        Check.fault("family 0 paved 1;", 9);
        Check.fault(ONE_OF_BOTH + "paved stone 0;", 31);
        Check.fault(ONE_OF_BOTH + "stone paved;", 31);
        Check.fault(ONE_OF_BOTH + "flood 0 flood;", 33);
        // Several faults: the first of them.
        Check.fault("piece 7 7 77;?", 6);
        Check.fault("piece 0 1 1;stone 2;piece 6 6 0;", 18);
        Check.fault(PIECE.repeat(8) + "?" + PIECE, 96);
    }

    private static void numbersBeyond() {
        Check.terms("a NUMBER beyond what it may be, too");
        for (int number : new int[] {6, 7, 9, 10, 98, 99}) {
            Check.fault("piece " + number + " 1 1;", 6);
            Check.fault("piece 0 " + number + " 1;", 8);
            Check.fault("family " + number + " 1 1;", 7);
            Check.fault("family 0 " + number + " 1;", 9);
            Check.fault(ONE_OF_BOTH + "paved " + number + " 0;", 31);
            Check.fault(ONE_OF_BOTH + "paved 0 " + number + ";", 33);
            Check.fault(ONE_OF_BOTH + "stone " + number + ";", 31);
            Check.fault(ONE_OF_BOTH + "flood " + number + " 0;", 31);
        }
        for (int number : new int[] {0, 31, 32, 99}) {
            Check.fault("piece 0 1 " + number + ";", 10);
        }
        for (int number : new int[] {0, 10, 11, 99}) {
            Check.fault("family 0 1 " + number + ";", 11);
        }
        for (int number : new int[] {10, 11, 99}) {
            Check.fault(PIECE + "flood 0 " + number + ";", 20);
        }
    }

    private static void wrongTokens() {
        Check.terms("of a byte that begins none,");
        for (char sign : new char[] {0, 31, '!', '"', '-', '+', '.', ',', '/', ':', '<', '@', 'A', 'Z', '[', '`', '{', 127, 128, 255}) {
            Check.fault("" + sign, 0);
            Check.fault("piece " + sign + "1 1 1;", 6);
            Check.fault(PIECE + " " + sign + PIECE, 13);
        }
        Check.terms("a word that is none of these,");
        for (String word : WORDS) {
            Check.fault(word.substring(1) + " 0 1 1;", 0);
            Check.fault(word.substring(0, word.length() - 1) + " 0 1 1;", 0);
            Check.fault(word + "s 0 1 1;", 0);
            Check.fault(word + word + " 0 1 1;", 0);
            for (int i = 0; i < word.length(); i++) {
                char other = word.charAt(i) == 'z' ? 'a' : (char) (word.charAt(i) + 1);
                Check.fault(" " + word.substring(0, i) + other + word.substring(i + 1) + " 0 1 1;", 1);
            }
        }
        Check.fault("piece o 1 1;", 6);
        Check.terms("a NUMBER above 99");
        // Those that wrap around come to 1 or 5 by 8, 16, 32 and 64 bits.
        for (String number : new String[] {"100", "101", "257", "261", "999", "65537", "4294967297", "4294967301",
            "18446744073709551617", "1" + Check.signs('0', 200) + "1"}) {
            Check.fault(number, 0);
            Check.fault("piece " + number + " 0 1;", 6);
            Check.fault("piece 0 " + number + " 1;", 8);
            Check.fault("piece 0 2 " + number + ";", 10);
            Check.fault("family 0 2 " + number + ";", 11);
        }
        Check.terms("or with a 0 ahead of others, that TOKEN's;");
        Check.good("piece 0 5 10;family 0 0 1;flood 0 0;", 3);
        for (String number : new String[] {"00", "01", "05", "000", "001", "0000000000000000001"}) {
            Check.fault("piece " + number + " 2 1;", 6);
            Check.fault("piece 2 " + number + " 1;", 8);
            Check.fault("piece 2 3 " + number + ";", 10);
            Check.fault("family 2 3 " + number + ";", 11);
            Check.fault(PIECE + "flood 0 " + number + ";", 20);
        }
    }

    private static void endsEarly() {
        Check.terms("the text's length, if it ends too early.");
        String[] items = {"piece 0 1 1;", "family 0 1 1;", "paved 0 0;", "stone 0;", "flood 0 1;"};
        for (int i = 0; i < items.length; i++) {
            for (int length = WORDS[i].length(); length < items[i].length(); length++) {
                String text = ONE_OF_BOTH + items[i].substring(0, length);
                Check.fault(text, text.length());
                Check.fault(text + "   ", text.length() + 3);
            }
            Check.good(ONE_OF_BOTH + items[i], 3);
        }
    }

    private static void type() {
        Check.promise(2, "The lowest n (1 .. 8) bytes of v, the highest of them first, come to THE TEXT: how many it has.");
        PavedBan x = new PavedBan();
        Check.due("1 byte", x.type(0x7069656365203020L, 1), 1);
        Check.due("8 bytes", x.type(Check.number("piece 0 "), 8), 9);
        // Of what stands above the lowest bytes nothing comes.
        Check.due("2 bytes", x.type(0xFFFFFFFFFFFF0000L | Check.number("1 "), 2), 11);
        Check.due("3 bytes", x.type(Check.number("?????27;"), 3), 14);
        Check.due("town", x.town(), 1);
        Check.due("yards", x.piece(0, 2), 27);
        Check.due("the highest first", x.type(Check.number(" ;"), 2), 2);
        Check.due("the fault behind the blank", x.town(), -11);
        x.clear();
        Check.due("all bits", x.type(-1L, 8), 8);
        Check.due("no token", x.town(), -10);
        for (int n = 1; n <= 8; n++) {
            PavedBan y = new PavedBan();
            Check.due("n " + n, y.type(0x2020202020202020L, n), n);
            Check.due("blanks", y.town(), 0);
        }
        Check.promise(2, "BAD;");
        for (int n : new int[] {0, -1, 9, 10, Check.LOW, Check.HIGH}) {
            Check.bad("type of " + n, y -> y.type(0x3B, n));
        }
        Check.promise(2, "FULL.");
        for (int n = 1; n <= 8; n++) {
            int bytes = n;
            Check.refusedIn(Check::full, "type into a full text", y -> y.type(0x20, bytes), Check.FULL);
            Check.refusedIn(() -> withBytes(301 - bytes), "one byte too many", y -> y.type(0x20, bytes), Check.FULL);
            PavedBan y = withBytes(300 - bytes);
            Check.due("the last that fit", y.type(0x20, bytes), 300);
            Check.due("clear", y.clear(), 300);
            Check.due("room again", y.type(0x20, bytes), bytes);
        }
    }

    /** So many blanks are typed. */
    private static PavedBan withBytes(int many) {
        PavedBan x = new PavedBan();
        Check.typeAll(x, Check.signs(' ', many));
        return x;
    }

    private static void clear() {
        Check.promise(3, "THE TEXT is empty: how many bytes it had.");
        Check.refusedIn(PavedBan::new, "clear of nothing", PavedBan::clear, 0);
        Check.due("one byte", withBytes(1).clear(), 1);
        PavedBan x = Check.full();
        Check.due("a full text", x.clear(), 300);
        Check.due("bytes", x.count(5), 0);
        Check.due("again", x.clear(), 0);
        PavedBan y = Check.full();
        y.clear();
        Check.same("clear", x, y);
        PavedBan z = Check.full();
        z.clear();
        Check.due("pieces stay", z.count(0), 8);
        Check.due("seen stays", z.count(4), 10);
        Check.due("images stay", z.back(1), 4);
    }

    private static void town() {
        Check.promise(4, "THE TEXT tells all, and is empty then: how many ITEMS.");
        PavedBan none = Check.small();
        none.clear();
        Check.due("an empty text", none.town(), 0);
        Check.due("no pieces", none.count(0), 0);
        Check.due("no families", none.count(1), 0);
        Check.due("as many items as 300 bytes have", Check.good(PIECE + "stone0;".repeat(41) + " ", 42).count(3), 1);
        PavedBan x = Check.small();
        Check.due("the text that was typed", x.town(), 3);
        Check.due("bytes", x.count(5), 0);
        Check.due("pieces", x.count(0), 1);
        Check.due("families", x.count(1), 1);
        Check.due("yards", x.piece(0, 2), 9);
        Check.due("of the pieces ahead none is there", x.piece(1, 0), Check.BAD);
        Check.due("nor of the families", x.family(1, 0), Check.BAD);
        Check.promise(4, "-10 less FAULT: nothing changes.");
        Check.fault("?", 0);
        Check.fault(PIECE + "?", 12);
        Check.fault(Check.signs(' ', 299) + "?", 299);
        Check.refusedIn(() -> {
            PavedBan y = Check.full();
            y.clear();
            Check.typeAll(y, "family 0 0 1;piece 0 1 1;paved 0 0;flood 0 5;stone 1;");
            return y;
        }, "town", PavedBan::town, -10 - 51);
    }
}
