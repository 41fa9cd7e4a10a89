import java.math.BigInteger;
import java.util.ArrayList;
import java.util.HashMap;
import java.util.HashSet;
import java.util.List;
import java.util.Map;
import java.util.Random;
import java.util.Set;
import java.util.regex.Matcher;
import java.util.regex.Pattern;

/** Random runs of calls, each answer against a slow model that goes by the document's words and tries all there is. */
public final class ModelTest {
    private static final int BAD = -1, STATE = -2, FULL = -3, NONE = -9, NO = -1000000;
    /** What an object answers behind so many calls is free. */
    private static final int MOST_CALLS = 512;
    private static final String[] CALLS = {"type", "clear", "town", "piece", "family", "pave", "free", "stone", "flood",
        "way", "place", "pole", "judge", "one", "all", "change", "rest", "match", "always", "shut", "saw", "forget",
        "fits", "who", "mark", "keep", "back", "count", "trace"};

    /** A way: where it goes, and how many yards. */
    private record Walk(List<Integer> places, int yards) {
        boolean before(Walk other) {
            if (yards != other.yards) {
                return yards < other.yards;
            }
            if (places.size() != other.places.size()) {
                return places.size() < other.places.size();
            }
            for (int i = 0; i < places.size(); i++) {
                if (!places.get(i).equals(other.places.get(i))) {
                    return places.get(i) < other.places.get(i);
                }
            }
            return false;
        }
    }

    private record Seen(int family, int set) { }

    private static final class Now {
        final Map<Integer, Integer> owners = new HashMap<>();
        final Set<Integer> stones = new HashSet<>();
        final Map<Integer, Integer> floods = new HashMap<>();
        final List<Seen> seen = new ArrayList<>();

        Now copy() {
            Now c = new Now();
            c.owners.putAll(owners);
            c.stones.addAll(stones);
            c.floods.putAll(floods);
            c.seen.addAll(seen);
            return c;
        }
    }

    private static final class Refused extends RuntimeException {
        private static final long serialVersionUID = 1;
        final int at;

        Refused(int at) {
            this.at = at;
        }
    }

    private static final class Model {
        StringBuilder text = new StringBuilder();
        List<int[]> pieces = new ArrayList<>();
        List<int[]> families = new ArrayList<>();
        Now now = new Now();
        Now[] images = new Now[2];
        long trace = 0;
        final Map<List<Object>, Walk> walks = new HashMap<>();

        // ---- reading

        private final List<String> tokens = new ArrayList<>();
        private final List<Integer> starts = new ArrayList<>();
        private int next;

        void cut() {
            tokens.clear();
            starts.clear();
            Matcher m = Pattern.compile("[a-z]+|[0-9]+|[^ ]", Pattern.DOTALL).matcher(text);
            while (m.find()) {
                tokens.add(m.group());
                starts.add(m.start());
            }
            tokens.add("");
            starts.add(text.length());
            next = 0;
        }

        int number(int low, int high, int not) {
            String t = tokens.get(next);
            boolean good = t.matches("0|[1-9][0-9]?") && Integer.parseInt(t) >= low && Integer.parseInt(t) <= high
                && Integer.parseInt(t) != not;
            if (!good) {
                throw new Refused(starts.get(next));
            }
            next++;
            return Integer.parseInt(t);
        }

        void expect(boolean good) {
            if (!good) {
                throw new Refused(starts.get(next));
            }
            next++;
        }

        int town() {
            List<int[]> p = new ArrayList<>();
            List<int[]> f = new ArrayList<>();
            Now n = new Now();
            int items = 0;
            try {
                for (cut(); !tokens.get(next).isEmpty(); items++) {
                    item(p, f, n);
                }
            } catch (Refused r) {
                return -10 - r.at;
            }
            pieces = p;
            families = f;
            now = n;
            images = new Now[2];
            text.setLength(0);
            walks.clear();
            return items;
        }

        void item(List<int[]> p, List<int[]> f, Now n) {
            String word = tokens.get(next);
            boolean room = !(word.equals("piece") && p.size() == 8) && !(word.equals("family") && f.size() == 4);
            expect(room && List.of("piece", "family", "paved", "stone", "flood").contains(word));
            if (word.equals("piece")) {
                int a = number(0, 5, -1);
                int[] told = {a, number(0, 5, a), number(1, 30, -1)};
                expect(tokens.get(next).equals(";"));
                p.add(told);
                return;
            }
            if (word.equals("family")) {
                int[] told = {number(0, 5, -1), number(0, 5, -1), number(1, 9, -1)};
                expect(tokens.get(next).equals(";"));
                f.add(told);
                return;
            }
            int which = number(0, p.size() - 1, -1);
            int more = word.equals("stone") ? 0 : number(0, word.equals("paved") ? f.size() - 1 : 9, -1);
            expect(tokens.get(next).equals(";"));
            if (word.equals("paved")) {
                n.stones.remove(which);
                n.owners.put(which, more);
            } else if (word.equals("stone")) {
                n.stones.add(which);
                n.owners.remove(which);
            } else {
                n.floods.put(which, more);
            }
        }

        // ---- ways

        Set<Integer> own(Map<Integer, Integer> owners, int f) {
            Set<Integer> set = new HashSet<>();
            owners.forEach((p, o) -> {
                if (o == f) {
                    set.add(p);
                }
            });
            return set;
        }

        /** Null: cut off. */
        Walk walk(int f, Set<Integer> banned) {
            List<Object> key = List.of(f, Set.copyOf(banned));
            if (!walks.containsKey(key)) {
                List<Walk> found = new ArrayList<>();
                walkOn(new ArrayList<>(List.of(families.get(f)[0])), 0, families.get(f)[1], banned, found);
                Walk best = null;
                for (Walk w : found) {
                    best = best == null || w.before(best) ? w : best;
                }
                walks.put(key, best);
            }
            return walks.get(key);
        }

        void walkOn(List<Integer> places, int yards, int goal, Set<Integer> banned, List<Walk> found) {
            int here = places.get(places.size() - 1);
            if (here == goal) {
                found.add(new Walk(List.copyOf(places), yards));
                return;
            }
            for (int p = 0; p < pieces.size(); p++) {
                int[] t = pieces.get(p);
                int to = t[0] == here ? t[1] : t[1] == here ? t[0] : -1;
                if (to >= 0 && !banned.contains(p) && !places.contains(to)) {
                    places.add(to);
                    walkOn(places, yards + t[2], goal, banned, found);
                    places.remove(places.size() - 1);
                }
            }
        }

        Walk walkNow(int f) {
            return walk(f, own(now.owners, f));
        }

        int yards(Walk w) {
            return w == null ? NONE : w.yards();
        }

        /** Costs added and the longest way of a sharing out; null: some are cut off. */
        int[] worth(Map<Integer, Integer> owners) {
            int[] sum = {0, 0};
            for (int f = 0; f < families.size(); f++) {
                Walk w = walk(f, own(owners, f));
                if (w == null) {
                    return null;
                }
                sum[0] += w.yards() * families.get(f)[2];
                sum[1] = Math.max(sum[1], w.yards());
            }
            return sum;
        }

        int judge(int what) {
            int bits = 0;
            for (int f = 0; f < families.size(); f++) {
                bits |= walkNow(f) == null ? 1 << f : 0;
            }
            int[] sum = worth(now.owners);
            return what < 0 || what > 2 ? BAD : what == 2 ? bits : sum == null ? NONE : sum[what];
        }

        // ---- who should pave what

        /** All rows of so many numbers below a bound, in order. */
        static List<int[]> rows(int length, int bound) {
            List<int[]> list = new ArrayList<>();
            int many = (int) Math.pow(bound, length);
            for (int i = 0; i < many; i++) {
                int[] row = new int[length];
                int left = i;
                for (int at = length - 1; at >= 0; at--) {
                    row[at] = left % bound;
                    left /= bound;
                }
                list.add(row);
            }
            return list;
        }

        int one(int what, int f) {
            if (what < 0 || what > 1 || f < -1 || f >= families.size()) {
                return BAD;
            }
            int best = NONE;
            int[] bestRow = null;
            for (int[] row : rows(families.size(), pieces.size())) {
                Map<Integer, Integer> owners = new HashMap<>();
                boolean good = true;
                for (int i = 0; i < row.length; i++) {
                    good = good && !now.stones.contains(row[i]) && owners.put(row[i], i) == null;
                }
                int[] sum = good ? worth(owners) : null;
                if (sum != null && (best == NONE || sum[what] < best)) {
                    best = sum[what];
                    bestRow = row;
                }
            }
            return best == NONE || f == -1 ? best : bestRow[f];
        }

        List<Integer> soft() {
            List<Integer> list = new ArrayList<>();
            for (int p = 0; p < pieces.size(); p++) {
                if (!now.stones.contains(p)) {
                    list.add(p);
                }
            }
            return list;
        }

        Map<Integer, Integer> owners(List<Integer> soft, int[] row) {
            Map<Integer, Integer> owners = new HashMap<>();
            for (int i = 0; i < row.length; i++) {
                owners.put(soft.get(i), row[i]);
            }
            return owners;
        }

        int all(int p) {
            if (p < -1 || p >= pieces.size()) {
                return BAD;
            }
            List<Integer> soft = soft();
            int best = NONE;
            int[] bestRow = null;
            for (int[] row : rows(soft.size(), families.size())) {
                int[] sum = worth(owners(soft, row));
                if (sum != null && (best == NONE || sum[0] < best)) {
                    best = sum[0];
                    bestRow = row;
                }
            }
            if (best == NONE || p == -1) {
                return best;
            }
            return now.stones.contains(p) ? -5 : bestRow[soft.indexOf(p)];
        }

        boolean less(Walk then, Walk before) {
            return then != null && (before == null || then.yards() < before.yards());
        }

        int change(Map<Integer, Integer> owners) {
            for (int p = 0; p < pieces.size(); p++) {
                for (int q = p + 1; q < pieces.size(); q++) {
                    Integer f = owners.get(p);
                    Integer g = owners.get(q);
                    if (f != null && g != null && !f.equals(g)) {
                        Map<Integer, Integer> then = new HashMap<>(owners);
                        then.put(p, g);
                        then.put(q, f);
                        if (less(walk(f, own(then, f)), walk(f, own(owners, f)))
                            && less(walk(g, own(then, g)), walk(g, own(owners, g)))) {
                            return 10 * p + q;
                        }
                    }
                }
            }
            return NONE;
        }

        int rest() {
            Map<Integer, Integer> owners = new HashMap<>(now.owners);
            int many = 0;
            for (int c = change(owners); c != NONE; c = change(owners)) {
                Integer f = owners.get(c / 10);
                owners.put(c / 10, owners.get(c % 10));
                owners.put(c % 10, f);
                many++;
            }
            return many;
        }

        int match(int f, int g) {
            if (f < 0 || g < 0 || f >= families.size() || g >= families.size() || f == g) {
                return BAD;
            }
            Set<Integer> both = own(now.owners, f);
            both.addAll(own(now.owners, g));
            Walk a = walk(f, both);
            Walk b = walk(g, both);
            if (a == null || b == null) {
                return NONE;
            }
            return (a.yards() - walkNow(f).yards()) * families.get(f)[2] + (b.yards() - walkNow(g).yards()) * families.get(g)[2];
        }

        /** The fewest stones that do, tried over all sets. */
        int always() {
            int best = NONE;
            for (int set = 0; set < 1 << pieces.size(); set++) {
                boolean good = true;
                for (int p = 0; p < pieces.size(); p++) {
                    boolean stone = (set >> p & 1) == 1;
                    good = good && (stone || !now.stones.contains(p));
                    for (int f = 0; f < families.size() && !stone; f++) {
                        good = good && walk(f, Set.of(p)) != null;
                    }
                }
                for (int f = 0; f < families.size(); f++) {
                    good = good && walk(f, Set.of()) != null;
                }
                if (good && (best == NONE || Integer.bitCount(set) < Integer.bitCount(best))) {
                    best = set;
                }
            }
            return best;
        }

        // ---- floods, tracks

        BigInteger shutFrom(int f, int p, Set<Integer> banned) {
            if (p == pieces.size()) {
                return walk(f, banned) == null ? BigInteger.ONE : BigInteger.ZERO;
            }
            int n = now.floods.getOrDefault(p, 0);
            BigInteger dry = shutFrom(f, p + 1, banned).multiply(BigInteger.valueOf(10 - n));
            Set<Integer> wet = new HashSet<>(banned);
            wet.add(p);
            return dry.add(n == 0 ? BigInteger.ZERO : shutFrom(f, p + 1, wet).multiply(BigInteger.valueOf(n)));
        }

        long shut(int f, int what) {
            if (f < 0 || f >= families.size() || what < 0 || what > 1) {
                return BAD;
            }
            BigInteger upper = shutFrom(f, 0, own(now.owners, f));
            BigInteger lower = BigInteger.TEN.pow(pieces.size());
            BigInteger gcd = upper.gcd(lower);
            return (what == 0 ? upper : lower).divide(gcd).longValueExact();
        }

        List<int[]> fitting(List<Integer> soft) {
            List<int[]> list = new ArrayList<>();
            for (int[] row : rows(soft.size(), families.size())) {
                Set<Integer> have = new HashSet<>();
                boolean good = true;
                for (int i = 0; i < row.length; i++) {
                    have.add(row[i]);
                    for (Seen s : now.seen) {
                        good = good && !(s.family() == row[i] && (s.set() >> soft.get(i) & 1) == 1);
                    }
                }
                if (good && have.size() == families.size()) {
                    list.add(row);
                }
            }
            return list;
        }

        int who(int p) {
            if (p < 0 || p >= pieces.size()) {
                return BAD;
            }
            if (now.stones.contains(p)) {
                return STATE;
            }
            Set<Integer> can = new HashSet<>();
            for (int[] row : fitting(soft())) {
                can.add(row[soft().indexOf(p)]);
            }
            return can.size() == 1 ? can.iterator().next() : NONE;
        }

        // ---- kinds

        int mark(int kind, int f) {
            trace += (long) Math.pow(10, kind);
            Set<Integer> own = own(now.owners, f);
            switch (kind) {
                case 0: return families.get(f)[2];
                case 1: return mark(0, f) + own.size();
                case 2: return mark(0, f) + Math.max(0, yards(walkNow(f)));
                case 3: return mark(1, f) * 2;
                case 4: return mark(2, f) - own.stream().mapToInt(p -> pieces.get(p)[2]).sum();
                default: return mark(0, f) + families.get(f)[0];
            }
        }

        // ---- calls

        boolean isPiece(int p) {
            return p >= 0 && p < pieces.size();
        }

        boolean isFamily(int f) {
            return f >= 0 && f < families.size();
        }

        long call(String name, long v, int a, int b) {
            switch (name) {
                case "type": return type(v, a);
                case "clear": { int had = text.length(); text.setLength(0); return had; }
                case "town": return town();
                case "piece": case "family": case "pave": case "free": case "stone": case "flood": return townCall(name, a, b);
                case "way": return isFamily(a) ? yards(walkNow(a)) : BAD;
                case "place": return place(a, b);
                case "pole": return pole(a, b);
                case "judge": return judge(a);
                case "one": return one(a, b);
                case "all": return all(a);
                case "change": return change(now.owners);
                case "rest": return rest();
                case "match": return match(a, b);
                case "always": return always();
                case "shut": return shut(a, b);
                case "saw": return saw(a, b);
                case "forget": { int had = now.seen.size(); now.seen.clear(); return had; }
                case "fits": return fitting(soft()).size();
                case "who": return who(a);
                case "mark": return a < 0 || a > 5 || !isFamily(b) ? NO : mark(a, b);
                case "keep": case "back": return imageCall(name, a);
                case "count": return a < 0 || a > 5 ? BAD : new int[] {pieces.size(), families.size(), now.owners.size(),
                    now.stones.size(), now.seen.size(), text.length()}[a];
                default: return trace;
            }
        }

        int type(long v, int n) {
            if (n < 1 || n > 8) {
                return BAD;
            }
            if (text.length() + n > 300) {
                return FULL;
            }
            byte[] bytes = java.nio.ByteBuffer.allocate(8).putLong(v).array();
            for (int i = 8 - n; i < 8; i++) {
                text.append((char) (bytes[i] & 255));
            }
            return text.length();
        }

        int place(int f, int i) {
            if (!isFamily(f) || i < 0) {
                return BAD;
            }
            Walk w = walkNow(f);
            return w == null ? NONE : i < w.places().size() ? w.places().get(i) : -5;
        }

        int pole(int f, int width) {
            if (!isFamily(f) || width < 0 || width > 30) {
                return BAD;
            }
            Set<Integer> own = own(now.owners, f);
            own.removeIf(p -> pieces.get(p)[2] <= width);
            return yards(walk(f, own));
        }

        int saw(int f, int set) {
            if (!isFamily(f) || set < 0 || set > (1 << pieces.size()) - 1) {
                return BAD;
            }
            if (now.seen.size() == 10) {
                return FULL;
            }
            now.seen.add(new Seen(f, set));
            return now.seen.size();
        }

        int imageCall(String name, int image) {
            if (image != 0 && image != 1) {
                return BAD;
            }
            if (name.equals("keep")) {
                images[image] = now.copy();
            } else if (images[image] == null) {
                return STATE;
            } else {
                now = images[image].copy();
            }
            return now.owners.size();
        }

        int townCall(String name, int a, int b) {
            if (name.equals("family")) {
                return !isFamily(a) || b < 0 || b > 3 ? BAD : b == 3 ? own(now.owners, a).size() : families.get(a)[b];
            }
            if (!isPiece(a)) {
                return BAD;
            }
            int owner = now.owners.getOrDefault(a, NONE);
            int stone = now.stones.contains(a) ? 1 : 0;
            int flood = now.floods.getOrDefault(a, 0);
            switch (name) {
                case "piece":
                    return b < 0 || b > 5 ? BAD : b < 3 ? pieces.get(a)[b] : new int[] {owner, stone, flood}[b - 3];
                case "pave":
                    if (!isFamily(b)) {
                        return BAD;
                    }
                    if (stone == 1) {
                        return STATE;
                    }
                    now.owners.put(a, b);
                    return owner;
                case "free":
                    now.owners.remove(a);
                    return owner == NONE ? STATE : owner;
                case "stone":
                    if (b == 1) {
                        now.stones.add(a);
                        now.owners.remove(a);
                    } else if (b == 0) {
                        now.stones.remove(a);
                    }
                    return b == 0 || b == 1 ? stone : BAD;
                default:
                    if (b < 0 || b > 9) {
                        return BAD;
                    }
                    now.floods.put(a, b);
                    return flood;
            }
        }
    }

    private static long ask(PavedBan x, String name, long v, int a, int b) {
        switch (name) {
            case "type": return x.type(v, a);
            case "clear": return x.clear();
            case "town": return x.town();
            case "piece": return x.piece(a, b);
            case "family": return x.family(a, b);
            case "pave": return x.pave(a, b);
            case "free": return x.free(a);
            case "stone": return x.stone(a, b);
            case "flood": return x.flood(a, b);
            case "way": return x.way(a);
            case "place": return x.place(a, b);
            case "pole": return x.pole(a, b);
            case "judge": return x.judge(a);
            case "one": return x.one(a, b);
            case "all": return x.all(a);
            case "change": return x.change();
            case "rest": return x.rest();
            case "match": return x.match(a, b);
            case "always": return x.always();
            case "shut": return x.shut(a, b);
            case "saw": return x.saw(a, b);
            case "forget": return x.forget();
            case "fits": return x.fits();
            case "who": return x.who(a);
            case "mark": return x.mark(a, b);
            case "keep": return x.keep(a);
            case "back": return x.back(a);
            case "count": return x.count(a);
            default: return x.trace();
        }
    }

    private final Random random;
    private final List<String> rows = new ArrayList<>();
    private PavedBan x;
    private Model model;
    private boolean wrong = false;

    private ModelTest(long seed) {
        random = new Random(seed);
    }

    private void both(String name, long v, int a, int b) {
        if (wrong || usedUp()) {
            return;
        }
        long got = ask(x, name, v, a, b);
        long want = model.call(name, v, a, b);
        rows.add(name + "(" + (name.equals("type") ? v + ", " : "") + a + ", " + b + ") answered " + got);
        if (got != want) {
            wrong = true;
            rows.forEach(System.out::println);
            System.out.println("due is " + want + " (arguments that the call does not take are told, too)");
        }
    }

    private boolean usedUp() {
        return rows.size() >= MOST_CALLS;
    }

    private void typeAll(String text) {
        for (int from = 0; from < text.length();) {
            int n = Math.min(1 + random.nextInt(8), text.length() - from);
            long v = random.nextLong();
            for (int i = 0; i < n; i++) {
                v = v << 8 | text.charAt(from + i);
            }
            both("type", v, n, 0);
            from += n;
        }
    }

    private int below(int bound) {
        return random.nextInt(bound);
    }

    private String townText(int mostPieces, int mostFamilies) {
        StringBuilder s = new StringBuilder();
        int pieces = mostPieces - below(3);
        int families = below(mostFamilies + 1);
        int places = 2 + below(5);
        int long1 = random.nextBoolean() ? 3 : 30;
        for (int p = 0; p < pieces; p++) {
            int a = below(places);
            int b = (a + 1 + below(places - 1)) % places;
            s.append("piece ").append(a).append(' ').append(b).append(' ').append(1 + below(long1)).append(';');
        }
        for (int f = 0; f < families; f++) {
            s.append("family ").append(below(places)).append(' ').append(below(places)).append(' ').append(1 + below(9)).append(';');
        }
        for (int i = below(8); i > 0 && pieces > 0 && s.length() < 285; i--) {
            int kind = below(families > 0 ? 3 : 2);
            s.append(kind == 0 ? "stone " : kind == 1 ? "flood " : "paved ").append(below(pieces));
            s.append(kind == 0 ? "" : " " + below(kind == 1 ? 10 : families)).append(";");
        }
        return s.toString();
    }

    /** A text with a few bytes changed, cut or put in. */
    private String spoilt(String text) {
        StringBuilder s = new StringBuilder(text);
        String signs = "  ;0123456789piecefamlyvdstnoxZ" + (char) 9 + (char) 200;
        for (int i = below(3); i >= 0 && s.length() > 0; i--) {
            int at = below(s.length());
            char sign = signs.charAt(below(signs.length()));
            switch (below(4)) {
                case 0: s.setCharAt(at, sign); break;
                case 1: s.insert(at, sign); break;
                case 2: s.deleteCharAt(at); break;
                default: s.setLength(Math.max(0, s.length() - below(12))); break;
            }
        }
        return s.toString();
    }

    private int argument() {
        switch (below(12)) {
            case 0: return new int[] {-1, -2, Integer.MIN_VALUE, Integer.MAX_VALUE, 31, 256, 1 << 30}[below(7)];
            case 1: return below(40) - 4;
            case 2: return below(260);
            default: return below(9);
        }
    }

    private int piece() {
        return below(Math.max(1, model.pieces.size()));
    }

    private int family() {
        return below(Math.max(1, model.families.size()));
    }

    private int firstOf(String name) {
        switch (name) {
            case "pave": case "piece": case "free": case "who": case "stone": case "flood": return piece();
            case "family": case "way": case "place": case "pole": case "match": case "shut": case "saw": return family();
            case "one": case "keep": case "back": return below(2);
            case "judge": return below(3);
            case "all": return piece() - below(2);
            case "mark": case "count": return below(6);
            default: return 1 + below(8);
        }
    }

    private int secondOf(String name) {
        switch (name) {
            case "pave": case "match": case "mark": return family();
            case "one": return family() - below(2);
            case "stone": case "shut": return below(2);
            case "flood": return below(10);
            case "pole": return below(31);
            case "saw": return below(1 << model.pieces.size()) & (below(4) == 0 ? 255 : 1 << below(8));
            default: return below(6);
        }
    }

    private void tellTown(int mostPieces, int mostFamilies) {
        for (int start = 0; start < 3; start++) {
            String text = townText(mostPieces, mostFamilies);
            typeAll(start == 2 ? text : spoilt(text));
            both("town", 0, 0, 0);
            if (model.text.length() > 0) {
                both("clear", 0, 0, 0);
            }
        }
    }

    private void begin() {
        x = new PavedBan();
        model = new Model();
        rows.clear();
    }

    private boolean run(int mostPieces, int mostFamilies, int calls) {
        begin();
        tellTown(mostPieces, mostFamilies);
        for (int i = 0; i < calls; i++) {
            if (usedUp()) {
                begin();
                tellTown(mostPieces, mostFamilies);
            }
            String name = CALLS[below(CALLS.length)];
            if (below(3) == 0) {
                name = new String[] {"pave", "pave", "stone", "flood", "saw"}[below(5)];
            }
            if (name.equals("stone") && below(2) > 0) {
                continue;
            }
            if (name.equals("town") && below(3) > 0) {
                tellTown(mostPieces, mostFamilies);
                continue;
            }
            boolean odd = below(8) == 0;
            both(name, random.nextLong(), odd ? argument() : firstOf(name), odd && below(2) == 0 ? argument() : secondOf(name));
        }
        return !wrong;
    }

    /** Every piece has an owner, so that there is much to exchange and to match. */
    private boolean runOfExchanges() {
        for (int round = 0; round < 12; round++) {
            // Of some rounds the object knows the town ahead.
            if (round % 4 == 0) {
                begin();
            }
            String text = townText(8, 4).replaceAll("stone [0-9];", "");
            typeAll(text);
            both("town", 0, 0, 0);
            for (int p = 0; p < model.pieces.size() && !model.families.isEmpty(); p++) {
                both("pave", 0, p, family());
            }
            both("change", 0, 0, 0);
            both("rest", 0, 0, 0);
            both("judge", 0, below(3), 0);
            both("match", 0, family(), family());
            both("pole", 0, family(), below(31));
            both("shut", 0, family(), below(2));
            both("mark", 0, 4, family());
        }
        return !wrong;
    }

    public static void main(String[] args) {
        int runs = args.length > 0 ? Integer.parseInt(args[0]) : 400;
        for (int seed = 0; seed < runs; seed++) {
            // Few runs are large: the model tries all of 4 to the 8th.
            boolean large = seed % 16 == 0;
            if (!new ModelTest(seed).run(large ? 8 : 5, 4, large ? 120 : 300)) {
                System.out.println("run " + seed + " has a wrong answer");
                System.exit(1);
            }
            if (!new ModelTest(seed).runOfExchanges()) {
                System.out.println("run " + seed + " of exchanges has a wrong answer");
                System.exit(1);
            }
        }
        System.out.println(runs + " runs as the model has them");
    }
}
