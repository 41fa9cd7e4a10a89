import java.util.Arrays;

/** May not walk on what one has paved: the promises stand in DOC.md. */
public final class PavedBan {
    public static final int BAD = -1, STATE = -2, FULL = -3, NONE = -9;
    public static final int NO = -1000000;

    private static final int PLACES = 6;
    private static final int MOST_PIECES = 8;
    private static final int MOST_FAMILIES = 4;
    private static final int MOST_YARDS = 30;
    private static final int MOST_TIMES = 9;
    private static final int MOST_FLOOD = 9;
    private static final int MOST_SEEN = 10;
    private static final int MOST_BYTES = 300;
    private static final int IMAGES = 2;
    /** Answered where a way has not so many places, and for a stone's owner. */
    private static final int LACKING = -5;
    /** Stands for the way of who is cut off: above all costs that there can be (4 * 9 * 150). */
    private static final int FAR = 100000;

    private final Typed typed;
    private final Reader reader;
    private final Town told;
    private final Town toldDraft;
    private final Now now;
    private final Now nowDraft;
    private final Now[] images;
    private final boolean[] kept;
    private final Ways ways;
    private final Choice choice;
    private final Exchanges exchanges;
    private final Floods floods;
    private final Tracks tracks;
    private long traced;

    public PavedBan() {
        typed = new Typed();
        told = new Town();
        toldDraft = new Town();
        now = new Now();
        nowDraft = new Now();
        reader = new Reader(typed, toldDraft, nowDraft);
        images = new Now[IMAGES];
        for (int i = 0; i < IMAGES; i++) {
            images[i] = new Now();
        }
        kept = new boolean[IMAGES];
        ways = new Ways(told);
        choice = new Choice(told, ways);
        exchanges = new Exchanges(told, ways);
        floods = new Floods(told, ways);
        tracks = new Tracks(told);
        traced = 0;
    }

    // ---- the town

    public int type(long v, int n) {
        if (n < 1 || n > 8) {
            return BAD;
        }
        if (typed.length + n > MOST_BYTES) {
            return FULL;
        }
        typed.append(v, n);
        return typed.length;
    }

    public int clear() {
        int had = typed.length;
        typed.length = 0;
        return had;
    }

    public int town() {
        int items = reader.readAll();
        if (items < 0) {
            return items;
        }
        told.become(toldDraft);
        now.become(nowDraft);
        for (int i = 0; i < IMAGES; i++) {
            kept[i] = false;
        }
        ways.startAnew();
        choice.startAnew();
        typed.length = 0;
        return items;
    }

    public int piece(int p, int what) {
        if (!isPiece(p)) {
            return BAD;
        }
        switch (what) {
            case 0: return told.endA[p];
            case 1: return told.endB[p];
            case 2: return told.yards[p];
            case 3: return now.owner[p];
            case 4: return now.stones >> p & 1;
            case 5: return now.inTen[p];
            default: return BAD;
        }
    }

    public int family(int f, int what) {
        if (!isFamily(f)) {
            return BAD;
        }
        switch (what) {
            case 0: return told.home[f];
            case 1: return told.goal[f];
            case 2: return told.times[f];
            case 3: return Integer.bitCount(now.ownedBy(f));
            default: return BAD;
        }
    }

    public int pave(int p, int f) {
        if (!isPiece(p) || !isFamily(f)) {
            return BAD;
        }
        if (now.isStone(p)) {
            return STATE;
        }
        int had = now.owner[p];
        now.owner[p] = f;
        return had;
    }

    public int free(int p) {
        if (!isPiece(p)) {
            return BAD;
        }
        int had = now.owner[p];
        if (had == NONE) {
            return STATE;
        }
        now.owner[p] = NONE;
        return had;
    }

    public int stone(int p, int is) {
        if (!isPiece(p) || is < 0 || is > 1) {
            return BAD;
        }
        int was = now.stones >> p & 1;
        if (is == 1) {
            now.makeStone(p);
        } else {
            now.makeNoStone(p);
        }
        return was;
    }

    public int flood(int p, int n) {
        if (!isPiece(p) || n < 0 || n > MOST_FLOOD) {
            return BAD;
        }
        int was = now.inTen[p];
        now.inTen[p] = n;
        return was;
    }

    // ---- ways

    public int way(int f) {
        if (!isFamily(f)) {
            return BAD;
        }
        return orNone(wayNow(f));
    }

    public int place(int f, int i) {
        if (!isFamily(f) || i < 0) {
            return BAD;
        }
        return ways.placeOnWay(f, now.ownedBy(f), i);
    }

    public int pole(int f, int width) {
        if (!isFamily(f) || width < 0 || width > MOST_YARDS) {
            return BAD;
        }
        int banned = now.ownedBy(f) & told.widerThan(width);
        return orNone(ways.yards(f, banned));
    }

    public int judge(int what) {
        int costs = 0;
        int longest = 0;
        int cutOff = 0;
        for (int f = 0; f < told.families; f++) {
            int yards = wayNow(f);
            costs += yards * told.times[f];
            longest = Math.max(longest, yards);
            cutOff |= yards >= FAR ? 1 << f : 0;
        }
        switch (what) {
            case 0: return orNone(costs);
            case 1: return orNone(longest);
            case 2: return cutOff;
            default: return BAD;
        }
    }

    // ---- who should pave what

    public int one(int what, int f) {
        if (what < 0 || what > 1 || f != -1 && !isFamily(f)) {
            return BAD;
        }
        choice.seek(what == 0 ? Choice.ONE_BY_COSTS : Choice.ONE_BY_LONGEST, now.stones);
        return chosen(f);
    }

    public int all(int p) {
        if (p != -1 && !isPiece(p)) {
            return BAD;
        }
        choice.seek(Choice.ALL, now.stones);
        return chosen(p);
    }

    public int change() {
        return exchanges.firstOf(now.owner);
    }

    public int rest() {
        return exchanges.numberOf(now.owner);
    }

    public int match(int f, int g) {
        if (!isFamily(f) || !isFamily(g) || f == g) {
            return BAD;
        }
        int ofF = now.ownedBy(f);
        int ofG = now.ownedBy(g);
        int together = ways.cost(f, ofF | ofG) + ways.cost(g, ofF | ofG);
        if (together >= FAR) {
            return NONE;
        }
        return together - ways.cost(f, ofF) - ways.cost(g, ofG);
    }

    public int always() {
        int needed = now.stones;
        for (int f = 0; f < told.families; f++) {
            if (ways.yards(f, 0) >= FAR) {
                return NONE;
            }
            needed |= ways.neededBy(f);
        }
        return needed;
    }

    // ---- floods, tracks

    public long shut(int f, int what) {
        if (!isFamily(f) || what < 0 || what > 1) {
            return BAD;
        }
        floods.reckon(f, now);
        return what == 0 ? floods.upper : floods.lower;
    }

    public int saw(int f, int set) {
        if (!isFamily(f) || set < 0 || set >= 1 << told.pieces) {
            return BAD;
        }
        if (now.seen >= MOST_SEEN) {
            return FULL;
        }
        now.walked[f] |= set;
        now.seen++;
        return now.seen;
    }

    public int forget() {
        int had = now.seen;
        now.unsee();
        return had;
    }

    public int fits() {
        return tracks.waysOf(now, -1, -1);
    }

    public int who(int p) {
        if (!isPiece(p)) {
            return BAD;
        }
        if (now.isStone(p)) {
            return STATE;
        }
        return tracks.onlyOwner(now, p);
    }

    // ---- kinds, images

    public int mark(int kind, int f) {
        if (!isFamily(f)) {
            return NO;
        }
        switch (kind) {
            case 0: return asFamily(f);
            case 1: return asWidow(f);
            case 2: return asMason(f);
            case 3: return asHeir(f);
            case 4: return asHired(f);
            case 5: return asBachelor(f);
            default: return NO;
        }
    }

    public int keep(int image) {
        if (image < 0 || image >= IMAGES) {
            return BAD;
        }
        images[image].become(now);
        kept[image] = true;
        return now.ownedPieces();
    }

    public int back(int image) {
        if (image < 0 || image >= IMAGES) {
            return BAD;
        }
        if (!kept[image]) {
            return STATE;
        }
        now.become(images[image]);
        return now.ownedPieces();
    }

    public int count(int what) {
        switch (what) {
            case 0: return told.pieces;
            case 1: return told.families;
            case 2: return now.ownedPieces();
            case 3: return Integer.bitCount(now.stones);
            case 4: return now.seen;
            case 5: return typed.length;
            default: return BAD;
        }
    }

    public long trace() {
        return traced;
    }

    // ---- what the calls share

    private boolean isPiece(int p) {
        return p >= 0 && p < told.pieces;
    }

    private boolean isFamily(int f) {
        return f >= 0 && f < told.families;
    }

    private int wayNow(int f) {
        return ways.yards(f, now.ownedBy(f));
    }

    private static int orNone(int number) {
        return number >= FAR ? NONE : number;
    }

    /** What the choice is worth (-1), or what it has for a family or a piece. */
    private int chosen(int which) {
        if (choice.best >= FAR) {
            return NONE;
        }
        return which < 0 ? choice.best : choice.chosen[which];
    }

    private int asFamily(int f) {
        traced += 1;
        return told.times[f];
    }

    private int asWidow(int f) {
        traced += 10;
        return asFamily(f) + Integer.bitCount(now.ownedBy(f));
    }

    private int asMason(int f) {
        traced += 100;
        int yards = wayNow(f);
        return asFamily(f) + (yards >= FAR ? 0 : yards);
    }

    private int asHeir(int f) {
        traced += 1000;
        return asWidow(f) * 2;
    }

    private int asHired(int f) {
        traced += 10000;
        return asMason(f) - told.yardsOf(now.ownedBy(f));
    }

    private int asBachelor(int f) {
        traced += 100000;
        return asFamily(f) + told.home[f];
    }

    /** The text as it is typed. */
    private static final class Typed {
        final byte[] bytes = new byte[MOST_BYTES];
        int length = 0;

        /** The caller has seen to it that n bytes more have room. */
        void append(long v, int n) {
            for (int i = n - 1; i >= 0 && length < MOST_BYTES; i--) {
                bytes[length] = (byte) (v >> 8 * i);
                length++;
            }
        }
    }

    /** What the text tells and no call changes. */
    private static final class Town {
        int pieces = 0;
        final int[] endA = new int[MOST_PIECES];
        final int[] endB = new int[MOST_PIECES];
        final int[] yards = new int[MOST_PIECES];
        int families = 0;
        final int[] home = new int[MOST_FAMILIES];
        final int[] goal = new int[MOST_FAMILIES];
        final int[] times = new int[MOST_FAMILIES];

        void empty() {
            pieces = 0;
            families = 0;
        }

        void become(Town other) {
            pieces = other.pieces;
            System.arraycopy(other.endA, 0, endA, 0, MOST_PIECES);
            System.arraycopy(other.endB, 0, endB, 0, MOST_PIECES);
            System.arraycopy(other.yards, 0, yards, 0, MOST_PIECES);
            families = other.families;
            System.arraycopy(other.home, 0, home, 0, MOST_FAMILIES);
            System.arraycopy(other.goal, 0, goal, 0, MOST_FAMILIES);
            System.arraycopy(other.times, 0, times, 0, MOST_FAMILIES);
        }

        /** The caller has seen to it that there is room for one more. */
        void addPiece(int a, int b, int y) {
            endA[pieces] = a;
            endB[pieces] = b;
            yards[pieces] = y;
            pieces++;
        }

        /** The caller has seen to it that there is room for one more. */
        void addFamily(int h, int t, int n) {
            home[families] = h;
            goal[families] = t;
            times[families] = n;
            families++;
        }

        int widerThan(int width) {
            int set = 0;
            for (int p = 0; p < pieces; p++) {
                set |= yards[p] > width ? 1 << p : 0;
            }
            return set;
        }

        int yardsOf(int set) {
            int sum = 0;
            for (int p = 0; p < pieces; p++) {
                sum += (set >> p & 1) * yards[p];
            }
            return sum;
        }
    }

    /** What calls change, and images keep. */
    private static final class Now {
        final int[] owner = new int[MOST_PIECES];
        final int[] inTen = new int[MOST_PIECES];
        int stones = 0;
        int seen = 0;
        /** By families: all pieces that it was seen on, as bits; more is never asked of what was seen. */
        final int[] walked = new int[MOST_FAMILIES];

        Now() {
            Arrays.fill(owner, NONE);
        }

        void empty() {
            Arrays.fill(owner, NONE);
            Arrays.fill(inTen, 0);
            stones = 0;
            unsee();
        }

        void become(Now other) {
            System.arraycopy(other.owner, 0, owner, 0, MOST_PIECES);
            System.arraycopy(other.inTen, 0, inTen, 0, MOST_PIECES);
            stones = other.stones;
            seen = other.seen;
            System.arraycopy(other.walked, 0, walked, 0, MOST_FAMILIES);
        }

        void unsee() {
            seen = 0;
            Arrays.fill(walked, 0);
        }

        boolean isStone(int p) {
            return (stones >> p & 1) != 0;
        }

        void makeStone(int p) {
            owner[p] = NONE;
            stones |= 1 << p;
        }

        void makeNoStone(int p) {
            stones &= ~(1 << p);
        }

        int ownedBy(int f) {
            return ownedIn(owner, f);
        }

        int ownedPieces() {
            int owned = 0;
            for (int p = 0; p < MOST_PIECES; p++) {
                owned += owner[p] == NONE ? 0 : 1;
            }
            return owned;
        }

        static int ownedIn(int[] owners, int f) {
            int set = 0;
            for (int p = 0; p < owners.length; p++) {
                set |= owners[p] == f ? 1 << p : 0;
            }
            return set;
        }
    }

    /** Reads the text into drafts, so that a fault leaves all as it was. */
    private static final class Reader {
        private static final int END = 0, NUMBER = 1, STOP = 2, PIECE = 3, FAMILY = 4,
            PAVED = 5, STONE = 6, FLOOD = 7, NO_TOKEN = 8;
        private static final int HIGHEST = 99;
        /** What number() answers if the token can't stand there. */
        private static final int REFUSED = -1;

        private final Typed typed;
        private final Town draft;
        private final Now draftNow;
        private int at = 0;
        private int start = 0;
        private int sort = END;
        private int value = 0;

        Reader(Typed typed, Town draft, Now draftNow) {
            this.typed = typed;
            this.draft = draft;
            this.draftNow = draftNow;
        }

        /** How many items, or -10 less the fault: the place of the token that was read last. */
        int readAll() {
            draft.empty();
            draftNow.empty();
            at = 0;
            for (int items = 0; items < MOST_BYTES; items++) {
                nextToken();
                if (sort == END) {
                    return items;
                }
                boolean good = false;
                switch (sort) {
                    case PIECE: good = readPiece(); break;
                    case FAMILY: good = readFamily(); break;
                    case PAVED: good = readPaved(); break;
                    case STONE: good = readStone(); break;
                    case FLOOD: good = readFlood(); break;
                    default: break;
                }
                if (!good) {
                    break;
                }
            }
            return -10 - start;
        }

        /** Answers false with the token at fault being the last that was read; so do those below. */
        private boolean readPiece() {
            if (draft.pieces >= MOST_PIECES) {
                return false;
            }
            int a = number(PLACES - 1);
            if (a == REFUSED) {
                return false;
            }
            int b = number(PLACES - 1);
            if (b == REFUSED || b == a) {
                return false;
            }
            int yards = number(MOST_YARDS);
            if (yards < 1 || !stops()) {
                return false;
            }
            draft.addPiece(a, b, yards);
            return true;
        }

        private boolean readFamily() {
            if (draft.families >= MOST_FAMILIES) {
                return false;
            }
            int home = number(PLACES - 1);
            if (home == REFUSED) {
                return false;
            }
            int goal = number(PLACES - 1);
            if (goal == REFUSED) {
                return false;
            }
            int times = number(MOST_TIMES);
            if (times < 1 || !stops()) {
                return false;
            }
            draft.addFamily(home, goal, times);
            return true;
        }

        private boolean readPaved() {
            int p = number(draft.pieces - 1);
            if (p == REFUSED) {
                return false;
            }
            int f = number(draft.families - 1);
            if (f == REFUSED || !stops()) {
                return false;
            }
            draftNow.makeNoStone(p);
            draftNow.owner[p] = f;
            return true;
        }

        private boolean readStone() {
            int p = number(draft.pieces - 1);
            if (p == REFUSED || !stops()) {
                return false;
            }
            draftNow.makeStone(p);
            return true;
        }

        private boolean readFlood() {
            int p = number(draft.pieces - 1);
            if (p == REFUSED) {
                return false;
            }
            int n = number(MOST_FLOOD);
            if (n == REFUSED || !stops()) {
                return false;
            }
            draftNow.inTen[p] = n;
            return true;
        }

        /** The next token as a number from 0 to most, or REFUSED. */
        private int number(int most) {
            nextToken();
            return sort == NUMBER && value <= most ? value : REFUSED;
        }

        private boolean stops() {
            nextToken();
            return sort == STOP;
        }

        private void nextToken() {
            while (at < typed.length && typed.bytes[at] == ' ') {
                at++;
            }
            start = at;
            if (at >= typed.length) {
                sort = END;
            } else if (isLetter(typed.bytes[at])) {
                takeWord();
            } else if (isDigit(typed.bytes[at])) {
                takeNumber();
            } else {
                sort = typed.bytes[at] == ';' ? STOP : NO_TOKEN;
                at++;
            }
        }

        private void takeWord() {
            while (at < typed.length && isLetter(typed.bytes[at])) {
                at++;
            }
            if (spells("piece")) {
                sort = PIECE;
            } else if (spells("family")) {
                sort = FAMILY;
            } else if (spells("paved")) {
                sort = PAVED;
            } else if (spells("stone")) {
                sort = STONE;
            } else {
                sort = spells("flood") ? FLOOD : NO_TOKEN;
            }
        }

        private void takeNumber() {
            value = 0;
            while (at < typed.length && isDigit(typed.bytes[at])) {
                // Held down, for a long row of digits would wrap around.
                value = Math.min(value * 10 + typed.bytes[at] - '0', HIGHEST + 1);
                at++;
            }
            boolean zeroAhead = typed.bytes[start] == '0' && at - start > 1;
            sort = zeroAhead || value > HIGHEST ? NO_TOKEN : NUMBER;
        }

        private static boolean isLetter(byte sign) {
            return sign >= 'a' && sign <= 'z';
        }

        private static boolean isDigit(byte sign) {
            return sign >= '0' && sign <= '9';
        }

        /** Whether the bytes from start to at are this word. */
        private boolean spells(String word) {
            if (at - start != word.length()) {
                return false;
            }
            for (int i = 0; i < word.length(); i++) {
                if (typed.bytes[start + i] != word.charAt(i)) {
                    return false;
                }
            }
            return true;
        }
    }

    /** Ways by the pieces that are not banned; each is measured once for a town. */
    private static final class Ways {
        /** A number of UNIT times yards and pieces is less just if yards are, or as many and pieces are. */
        private static final int UNIT = 16;

        private final Town town;
        /** By family and banned pieces: the way's yards and 1; 0: not measured yet. */
        private final int[] known = new int[MOST_FAMILIES << MOST_PIECES];
        /** By places: what is left from there, UNIT times yards and pieces. */
        private final int[] left = new int[PLACES];

        Ways(Town town) {
            this.town = town;
        }

        void startAnew() {
            Arrays.fill(known, 0);
        }

        /** FAR: it is cut off. */
        int yards(int f, int banned) {
            int at = (f << MOST_PIECES) + banned;
            if (known[at] == 0) {
                measure(f, banned);
                known[at] = left[town.home[f]] / UNIT + 1;
            }
            return known[at] - 1;
        }

        /** FAR or above: it is cut off. */
        int cost(int f, int banned) {
            return yards(f, banned) * town.times[f];
        }

        /** The pieces without which, one by one, a family would be cut off. */
        int neededBy(int f) {
            int needed = 0;
            for (int p = 0; p < town.pieces; p++) {
                needed |= yards(f, 1 << p) >= FAR ? 1 << p : 0;
            }
            return needed;
        }

        int placeOnWay(int f, int banned, int i) {
            measure(f, banned);
            int place = town.home[f];
            if (left[place] >= FAR * UNIT) {
                return NONE;
            }
            if (i > left[place] % UNIT) {
                return LACKING;
            }
            for (int step = 0; step < i; step++) {
                place = nextPlace(place, banned);
            }
            return place;
        }

        /** Fills the row of what is left to where a family must get to. */
        private void measure(int f, int banned) {
            Arrays.fill(left, FAR * UNIT);
            left[town.goal[f]] = 0;
            boolean nearer = true;
            for (int round = 1; nearer && round < PLACES; round++) {
                nearer = false;
                for (int p = 0; p < town.pieces; p++) {
                    if ((banned >> p & 1) == 0) {
                        nearer |= shorten(town.endA[p], town.endB[p], leg(p));
                        nearer |= shorten(town.endB[p], town.endA[p], leg(p));
                    }
                }
            }
        }

        private boolean shorten(int from, int to, int leg) {
            if (left[to] + leg >= left[from]) {
                return false;
            }
            left[from] = left[to] + leg;
            return true;
        }

        private int leg(int p) {
            return town.yards[p] * UNIT + 1;
        }

        /** The first of the places by which the best way goes on. */
        private int nextPlace(int place, int banned) {
            int next = PLACES;
            for (int p = 0; p < town.pieces; p++) {
                if ((banned >> p & 1) == 0) {
                    int other = otherEnd(p, place);
                    if (other >= 0 && left[other] + leg(p) == left[place]) {
                        next = Math.min(next, other);
                    }
                }
            }
            return next < PLACES ? next : place;
        }

        /** -1: the piece is not at this place. */
        private int otherEnd(int p, int place) {
            if (town.endA[p] == place) {
                return town.endB[p];
            }
            return town.endB[p] == place ? town.endA[p] : -1;
        }
    }

    /** Who should pave what. Only what is better takes the best's place, so the first of several wins. */
    private static final class Choice {
        static final int ONE_BY_COSTS = 0, ONE_BY_LONGEST = 1, ALL = 2;
        private static final int NOTHING = -1;

        private final Town town;
        private final Ways ways;
        /** What was sought last, and by which stones: asked again, it need not be sought again. */
        private int sought = NOTHING;
        private int stones = 0;
        /** FAR: there is no choice. */
        int best = FAR;
        /** Pieces by families (one each), or owners by pieces (all). */
        final int[] chosen = new int[MOST_PIECES];
        private final int[] tried = new int[MOST_PIECES];
        private final int[] given = new int[MOST_FAMILIES];

        Choice(Town town, Ways ways) {
            this.town = town;
            this.ways = ways;
        }

        void startAnew() {
            sought = NOTHING;
        }

        void seek(int what, int stonesNow) {
            if (sought == what && stones == stonesNow) {
                return;
            }
            sought = what;
            stones = stonesNow;
            best = FAR;
            if (what != ALL) {
                tryFamily(0, stones, 0);
                return;
            }
            Arrays.fill(given, 0);
            int costs = costsOfNone();
            if (costs < best) {
                tryPiece(0, costs);
            }
        }

        /** What all cost while nobody has paved anything. */
        private int costsOfNone() {
            int costs = 0;
            for (int f = 0; f < town.families; f++) {
                costs += ways.cost(f, 0);
            }
            return costs;
        }

        /** Families below f have their pieces, and are worth so much by them. */
        private void tryFamily(int f, int taken, int worth) {
            if (f >= town.families) {
                take(worth);
                return;
            }
            for (int p = 0; p < town.pieces; p++) {
                int bit = 1 << p;
                int then = (taken & bit) == 0 ? worthWith(worth, f, bit) : FAR;
                if (then < best) {
                    tried[f] = p;
                    tryFamily(f + 1, taken | bit, then);
                }
            }
        }

        private int worthWith(int worth, int f, int banned) {
            if (sought == ONE_BY_LONGEST) {
                return Math.max(worth, ways.yards(f, banned));
            }
            return worth + ways.yards(f, banned) * town.times[f];
        }

        /** Pieces below p are given, at these costs, which never fall by giving more: no better now, no better then. */
        private void tryPiece(int p, int costs) {
            if (p >= town.pieces) {
                take(costs);
                return;
            }
            int bit = 1 << p;
            if ((stones & bit) != 0) {
                tried[p] = LACKING;
                tryPiece(p + 1, costs);
                return;
            }
            for (int f = 0; f < town.families; f++) {
                int then = costs - ways.cost(f, given[f]) + ways.cost(f, given[f] | bit);
                if (then < best) {
                    tried[p] = f;
                    given[f] |= bit;
                    tryPiece(p + 1, then);
                    given[f] &= ~bit;
                }
            }
        }

        private void take(int worth) {
            best = worth;
            System.arraycopy(tried, 0, chosen, 0, MOST_PIECES);
        }
    }

    /** Changes of two pieces by which both owners gain. */
    private static final class Exchanges {
        /** Each change shortens two ways, of 4 that are 150 yards at most or cut off, so there are far fewer. */
        private static final int BOUND = 10000;

        private final Town town;
        private final Ways ways;
        private final int[] owner = new int[MOST_PIECES];

        Exchanges(Town town, Ways ways) {
            this.town = town;
            this.ways = ways;
        }

        /** 10 times the first piece and the second. */
        int firstOf(int[] owners) {
            for (int p = 0; p < town.pieces; p++) {
                for (int q = p + 1; q < town.pieces; q++) {
                    boolean two = owners[p] != NONE && owners[q] != NONE && owners[p] != owners[q];
                    if (two && gains(owners, p, q) && gains(owners, q, p)) {
                        return 10 * p + q;
                    }
                }
            }
            return NONE;
        }

        int numberOf(int[] owners) {
            System.arraycopy(owners, 0, owner, 0, MOST_PIECES);
            int next = firstOf(owner);
            int made = 0;
            while (next != NONE && made < BOUND) {
                exchange(next / 10, next % 10);
                made++;
                next = firstOf(owner);
            }
            return made;
        }

        private void exchange(int p, int q) {
            int first = owner[p];
            owner[p] = owner[q];
            owner[q] = first;
        }

        /** Whether the owner of one piece has a shorter way with the other in its stead. */
        private boolean gains(int[] owners, int gives, int gets) {
            int f = owners[gives];
            int own = Now.ownedIn(owners, f);
            int then = own & ~(1 << gives) | 1 << gets;
            return ways.yards(f, then) < ways.yards(f, own);
        }
    }

    /** The chance to be shut in, as a fraction. */
    private static final class Floods {
        private final Town town;
        private final Ways ways;
        long upper = 0;
        long lower = 1;

        Floods(Town town, Ways ways) {
            this.town = town;
            this.ways = ways;
        }

        void reckon(int f, Now now) {
            int own = now.ownedBy(f);
            upper = 0;
            for (int flooded = 0; flooded < 1 << town.pieces; flooded++) {
                long chance = chanceOf(flooded, now.inTen);
                if (chance > 0 && ways.yards(f, own | flooded) >= FAR) {
                    upper += chance;
                }
            }
            lower = 1;
            for (int p = 0; p < town.pieces; p++) {
                lower *= 10;
            }
            reduce();
        }

        /** How often, of 10 to the number of pieces, just these are flooded. */
        private long chanceOf(int flooded, int[] inTen) {
            long chance = 1;
            for (int p = 0; p < town.pieces; p++) {
                chance *= (flooded >> p & 1) != 0 ? inTen[p] : 10 - inTen[p];
            }
            return chance;
        }

        /** The lower number is a power of 10: only 2 and 5 can be in both. */
        private void reduce() {
            for (int p = 0; p < town.pieces; p++) {
                divideBoth(2);
                divideBoth(5);
            }
        }

        private void divideBoth(int prime) {
            if (prime > 1 && upper % prime == 0 && lower % prime == 0) {
                upper /= prime;
                lower /= prime;
            }
        }
    }

    /** Who can have paved what, by what was seen. */
    private static final class Tracks {
        private final Town town;
        /** By sets of families that have a piece already: in how many ways. */
        private final int[] number = new int[1 << MOST_FAMILIES];
        private final int[] after = new int[1 << MOST_FAMILIES];

        Tracks(Town town) {
            this.town = town;
        }

        /** In how many ways it fits, if the owner of one piece is this one (-1: no matter whose). */
        int waysOf(Now now, int fixed, int fixedOwner) {
            Arrays.fill(number, 0);
            number[0] = 1;
            for (int p = 0; p < town.pieces; p++) {
                if (!now.isStone(p)) {
                    addPiece(now, p, p == fixed ? fixedOwner : -1);
                }
            }
            return number[(1 << town.families) - 1];
        }

        int onlyOwner(Now now, int p) {
            int only = NONE;
            for (int f = 0; f < town.families; f++) {
                if (waysOf(now, p, f) > 0) {
                    if (only != NONE) {
                        return NONE;
                    }
                    only = f;
                }
            }
            return only;
        }

        private void addPiece(Now now, int p, int mustBe) {
            Arrays.fill(after, 0);
            for (int f = 0; f < town.families; f++) {
                boolean may = (now.walked[f] >> p & 1) == 0 && (mustBe == -1 || mustBe == f);
                for (int set = 0; may && set < 1 << town.families; set++) {
                    after[set | 1 << f] += number[set];
                }
            }
            System.arraycopy(after, 0, number, 0, number.length);
        }
    }
}
