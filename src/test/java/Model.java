import java.util.ArrayList;
import java.util.Arrays;
import java.util.List;

/**
 * The document written down a second time, as plainly as the Java library lets it be and with no thought for speed:
 * ModelTest lets it answer the same calls as LampCave. A seating is a list of who sits where, each MINUTE makes a new
 * list of FEARS, and handings are tried out one whole handing after the other.
 */
final class Model {
    private static final int BAD = -1, FULL = -2, FINDING = -3, STATE = -4, NONE = -9;

    private static final class Now {
        boolean ring;
        int law;
        int oil;
        boolean endless;
        List<String> kinds = new ArrayList<>();
        List<int[]> ways = new ArrayList<>();
        List<Integer> fears = new ArrayList<>();
        List<Integer> seating = new ArrayList<>();
        List<Boolean> lie = new ArrayList<>();
        List<Integer> had = new ArrayList<>();
        List<Now> ahead = new ArrayList<>();

        Now same() {
            Now n = new Now();
            n.ring = ring;
            n.law = law;
            n.oil = oil;
            n.endless = endless;
            n.kinds = new ArrayList<>(kinds);
            for (int[] w : ways) {
                n.ways.add(w.clone());
            }
            n.fears = new ArrayList<>(fears);
            n.seating = new ArrayList<>(seating);
            n.lie = new ArrayList<>(lie);
            n.had = new ArrayList<>(had);
            n.ahead = new ArrayList<>(ahead);
            return n;
        }

        int many() {
            return kinds.size();
        }

        boolean calm(int x) {
            return "csg".contains(kinds.get(x));
        }

        boolean beside(int a, int b) {
            int gap = Math.abs(seating.indexOf(a) - seating.indexOf(b));
            return gap == 1 || ring && many() > 2 && gap == many() - 1;
        }

        int shows(int x) {
            return kinds.get(x).equals("g") ? -1 : fears.get(x) + (lie.get(x) ? 9 : 0);
        }

        int lastHad() {
            return had.isEmpty() ? -1 : had.get(had.size() - 1);
        }

        int by(int which) {
            int last = lastHad();
            if (which != 0 && last < 0) {
                return 0;
            }
            if (which == 1) {
                return (last + 1) % many();
            }
            if (which == 3 && had.size() % 2 == 1) {
                return last;
            }
            int best = -1;
            for (int x = many() - 1; x >= 0; x--) {
                if (which == 2 && x != last && !beside(x, last)) {
                    continue;
                }
                if (best < 0 || shows(x) >= shows(best)) {
                    best = x;
                }
            }
            return best;
        }

        void minute(int who) {
            boolean light = endless || oil > 0;
            oil = endless ? oil : Math.max(0, oil - 1);
            List<Integer> then = new ArrayList<>();
            for (int x = 0; x < many(); x++) {
                int v = fears.get(x);
                if (light && x == who) {
                    v -= ways.get(x)[1];
                } else if (light && beside(x, who)) {
                    v += 0;
                } else {
                    v += ways.get(x)[0];
                    for (int y = 0; y < many(); y++) {
                        if (kinds.get(x).equals("k") && beside(x, y) && fears.get(y) > fears.get(x)) {
                            v++;
                        }
                    }
                }
                for (int y = 0; y < many(); y++) {
                    v -= beside(x, y) && calm(y) ? 1 : 0;
                }
                then.add(v < 0 ? 0 : v > 99 ? 99 : v);
            }
            fears = then;
            had.add(who);
        }

        int scream() {
            int bits = 0;
            for (int x = 0; x < many(); x++) {
                bits += fears.get(x) >= ways.get(x)[2] ? 1 << x : 0;
            }
            return bits;
        }

        int greatest() {
            return fears.stream().max(Integer::compare).orElse(0);
        }

        int sum() {
            return fears.stream().mapToInt(v -> v).sum();
        }

        void story(int who) {
            for (int x = 0; x < many(); x++) {
                if (beside(x, who)) {
                    fears.set(x, Math.max(0, fears.get(x) - 2));
                }
            }
            fears.set(who, fears.get(who) + (kinds.get(who).equals("s") ? 0 : 1));
        }

        /** Behind how many MINUTES it is OVER, NONE: not in so many. */
        int till(int which, int most) {
            Now n = same();
            for (int k = 0; k < most; k++) {
                if (n.scream() != 0) {
                    return k;
                }
                n.minute(n.by(which));
            }
            return n.scream() != 0 ? most : NONE;
        }

        /** As it is behind n MINUTES by a LAW, or when it is OVER. */
        Now behind(int which, int n) {
            Now later = same();
            for (int k = 0; k < n && later.scream() == 0; k++) {
                later.minute(later.by(which));
            }
            return later;
        }
    }

    private final int[][] rows = new int[6][];
    private final byte[][] texts = new byte[4][];
    private final Now[] kept = new Now[3];
    private final int[] times = new int[6];
    private Now now = new Now();
    private int told;
    private int latest;

    private int found(int f) {
        latest = f;
        times[f]++;
        return FINDING;
    }

    private boolean one(int x) {
        return x >= 0 && x < now.many();
    }

    private static boolean within(int v, int least, int most) {
        return v >= least && v <= most;
    }

    public int row(int r, int n) {
        if (!within(r, 0, 5) || n > 60) {
            return BAD;
        }
        if (n < 0) {
            return found(5);
        }
        rows[r] = new int[n];
        return n;
    }

    public int lay(int r, int i, int v) {
        int answer = at(r, i);
        if (answer == 1) {
            rows[r][i] = v;
        }
        return answer;
    }

    public int at(int r, int i) {
        if (!within(r, 0, 5)) {
            return BAD;
        }
        if (rows[r] == null) {
            return found(1);
        }
        if (!within(i, 0, rows[r].length - 1)) {
            return found(2);
        }
        told = rows[r][i];
        return 1;
    }

    public int tear(int r) {
        if (!within(r, 0, 5)) {
            return BAD;
        }
        if (rows[r] == null) {
            return found(1);
        }
        rows[r] = null;
        return 1;
    }

    public int copy(int r, int i, int to, int j, int n) {
        if (!within(r, 0, 5) || !within(to, 0, 5)) {
            return BAD;
        }
        if (n < 0) {
            return found(5);
        }
        if (rows[r] == null || rows[to] == null) {
            return found(1);
        }
        if (i < 0 || j < 0 || (long) i + n > rows[r].length || (long) j + n > rows[to].length) {
            return found(2);
        }
        int[] taken = Arrays.copyOfRange(rows[r], i, i + n);
        for (int k = 0; k < n; k++) {
            rows[to][j + k] = taken[k];
        }
        return 1;
    }

    public int mean(int r) {
        if (!within(r, 0, 5)) {
            return BAD;
        }
        if (rows[r] == null) {
            return found(1);
        }
        if (rows[r].length == 0) {
            return found(4);
        }
        told = (int) (Arrays.stream(rows[r]).asLongStream().sum() / rows[r].length);
        return 1;
    }

    public int text(int t, int n) {
        if (!within(t, 0, 3) || n > 80) {
            return BAD;
        }
        if (n < 0) {
            return found(5);
        }
        texts[t] = new byte[n];
        Arrays.fill(texts[t], (byte) 32);
        return n;
    }

    public int put(int t, int i, int v) {
        if (!within(t, 0, 3)) {
            return BAD;
        }
        if (texts[t] == null) {
            return found(1);
        }
        if (!within(i, 0, texts[t].length - 1)) {
            return found(2);
        }
        int was = texts[t][i] + 1000;
        texts[t][i] = (byte) v;
        return was;
    }

    private static String signs(byte[] text) {
        StringBuilder b = new StringBuilder();
        for (byte v : text) {
            b.append((char) (v & 255));
        }
        return b.toString();
    }

    private static final String HEAD = " *w[ro][0-3][0-9]", EACH = "[pcklsg][0-9][0-9][0-9][1-9]";

    public int fault(int t) {
        if (!within(t, 0, 3)) {
            return BAD;
        }
        if (texts[t] == null) {
            return found(1);
        }
        String s = signs(texts[t]);
        if (s.matches(HEAD + "( *" + EACH + "){0,5} *")) {
            return NONE;
        }
        // The longest beginning that some text without a FAULT begins with ends where the FAULT is.
        for (int n = s.length(); n > 0; n--) {
            if (canGoOn(s.substring(0, n))) {
                return n;
            }
        }
        return 0;
    }

    private static boolean canGoOn(String s) {
        for (String rest : new String[] {"", "1", "11", "111", "1111", "r11", "wr11"}) {
            if ((s + rest).matches(HEAD + "( *" + EACH + "){0,5} *")) {
                return true;
            }
        }
        return false;
    }

    public int cave(int t) {
        if (!within(t, 0, 3)) {
            return BAD;
        }
        if (texts[t] == null) {
            return found(1);
        }
        if (fault(t) != NONE) {
            return STATE;
        }
        String s = signs(texts[t]).replace(" ", "");
        now = new Now();
        Arrays.fill(kept, null);
        for (int i = 4; i < s.length(); i += 5) {
            now.ring = s.charAt(1) == 'o';
            now.law = s.charAt(2) - '0';
            now.oil = 10 * (s.charAt(3) - '0');
            now.seating.add(now.many());
            now.kinds.add(s.substring(i, i + 1));
            now.lie.add(s.charAt(i) == 'l');
            now.fears.add(s.charAt(i + 1) - '0');
            now.ways.add(new int[] {s.charAt(i + 2) - '0', s.charAt(i + 3) - '0', 5 * (s.charAt(i + 4) - '0')});
        }
        return now.many();
    }

    private int of(int x, int what) {
        switch (what) {
            case 0:
                return "pcklsg".indexOf(now.kinds.get(x));
            case 1:
                return now.fears.get(x);
            case 5:
                return now.shows(x);
            default:
                return now.ways.get(x)[what - 2];
        }
    }

    public int person(int x, int what) {
        if (!one(x) || !within(what, 0, 5)) {
            return BAD;
        }
        told = of(x, what);
        return 1;
    }

    public int mark(int x, int kind) {
        if (!one(x) || !within(kind, 1, 5)) {
            return BAD;
        }
        if (kind == 1 ? !now.calm(x) : of(x, 0) != kind) {
            return found(3);
        }
        int many = 0;
        for (int y = 0; y < now.many(); y++) {
            boolean more = now.fears.get(y) > now.fears.get(x);
            many += kind == 1 && now.beside(x, y) || kind == 2 && now.beside(x, y) && more || kind == 3 && more
                || kind == 4 && y != x && of(y, 0) == 4 ? 1 : 0;
        }
        return kind == 5 ? (int) now.had.stream().filter(v -> v == x).count() : many;
    }

    public int law(int v) {
        if (!within(v, 0, 3)) {
            return BAD;
        }
        if (now.many() == 0) {
            return STATE;
        }
        int was = now.law;
        now.law = v;
        return was;
    }

    public int oil(int v) {
        if (!within(v, 0, 99)) {
            return BAD;
        }
        if (now.many() == 0) {
            return STATE;
        }
        int was = now.oil;
        now.oil = v;
        return was;
    }

    public int fear(int x, int v) {
        if (!one(x) || !within(v, 0, 99)) {
            return BAD;
        }
        return now.fears.set(x, v);
    }

    private void goByMinute(int who) {
        Now was = now.same();
        was.ahead.clear();
        now.ahead.add(was);
        now.minute(who);
    }

    public int minutes(int n) {
        if (!within(n, 0, 60)) {
            return BAD;
        }
        if (now.many() == 0) {
            return STATE;
        }
        if (now.had.size() + n > 120) {
            return FULL;
        }
        int went = 0;
        for (; went < n && now.scream() == 0; went++) {
            goByMinute(now.by(now.law));
        }
        return went;
    }

    public int hand(int x) {
        if (!one(x)) {
            return BAD;
        }
        if (now.scream() != 0) {
            return STATE;
        }
        if (now.had.size() == 120) {
            return FULL;
        }
        goByMinute(x);
        return now.fears.get(x);
    }

    public int next() {
        return now.many() == 0 || now.scream() != 0 ? STATE : now.by(now.law);
    }

    public int had(int minute) {
        if (minute < 0) {
            return BAD;
        }
        return minute < now.had.size() ? now.had.get(minute) : found(2);
    }

    public int undo(int n) {
        int size = now.had.size();
        if (!within(n, 0, size)) {
            return BAD;
        }
        if (n < size) {
            Now was = now.ahead.get(n).same();
            was.law = now.law;
            was.ahead = new ArrayList<>(now.ahead.subList(0, n));
            now = was;
        }
        return size - n;
    }

    public int over() {
        told = now.scream();
        return Math.min(told, 1);
    }

    public int story(int x) {
        if (!one(x)) {
            return BAD;
        }
        if (now.scream() != 0) {
            return STATE;
        }
        now.story(x);
        return now.sum();
    }

    public int song(int v) {
        if (!within(v, 1, 99)) {
            return BAD;
        }
        if (now.many() == 0 || now.scream() != 0 || now.greatest() >= v) {
            return STATE;
        }
        int singers = (int) now.kinds.stream().filter(k -> k.equals("s")).count();
        now.fears.replaceAll(f -> Math.max(0, f - 1 - singers));
        return now.sum();
    }

    public int keep(int k) {
        if (!within(k, 0, 2)) {
            return BAD;
        }
        if (now.many() == 0) {
            return STATE;
        }
        kept[k] = now.same();
        return now.had.size();
    }

    public int on(int k) {
        if (!within(k, 0, 2)) {
            return BAD;
        }
        if (kept[k] == null) {
            return found(1);
        }
        now = kept[k].same();
        return now.had.size();
    }

    public int holds(int law) {
        if (!within(law, 0, 3)) {
            return BAD;
        }
        if (now.many() == 0) {
            return STATE;
        }
        int k = now.till(law, 100);
        if (k != NONE) {
            told = now.behind(law, k).scream();
        }
        return k;
    }

    private static int rank(int holding) {
        return holding == NONE ? 1000 : holding;
    }

    public int best() {
        if (now.many() == 0) {
            return STATE;
        }
        int best = 3;
        for (int v = 2; v >= 0; v--) {
            best = rank(now.till(v, 100)) >= rank(now.till(best, 100)) ? v : best;
        }
        told = now.till(best, 100);
        return best;
    }

    public int rest() {
        if (now.many() == 0) {
            return STATE;
        }
        Now n = now.same();
        n.endless = true;
        List<List<Integer>> seen = new ArrayList<>();
        for (int k = 0; k <= 100; k++) {
            if (n.scream() != 0) {
                return NONE;
            }
            List<Integer> how = new ArrayList<>(n.fears);
            how.add(n.lastHad());
            seen.add(how);
            if (k >= 2 && how.equals(seen.get(k - 2))) {
                return k;
            }
            n.minute(n.by(n.law));
        }
        return NONE;
    }

    public int worst(int n) {
        if (!within(n, 0, 60)) {
            return BAD;
        }
        if (now.many() == 0) {
            return STATE;
        }
        Now later = now.behind(now.law, n);
        told = later.fears.indexOf(later.greatest());
        return later.greatest();
    }

    public int often(int x, int n) {
        if (!one(x) || !within(n, 0, 60)) {
            return BAD;
        }
        List<Integer> had = now.behind(now.law, n).had;
        return (int) had.subList(now.had.size(), had.size()).stream().filter(v -> v == x).count();
    }

    /** The k-th handing of n MINUTES by numbers. */
    private int[] handing(int n, int k) {
        int[] who = new int[n];
        for (int i = n - 1; i >= 0; i--) {
            who[i] = k % now.many();
            k /= now.many();
        }
        return who;
    }

    /** The greatest FEAR behind a handing, NONE: OVER. */
    private int greatestBehind(int[] who) {
        Now n = now.same();
        for (int w : who) {
            n.minute(w);
            if (n.scream() != 0) {
                return NONE;
            }
        }
        return n.scream() != 0 ? NONE : n.greatest();
    }

    private static int power(int a, int n) {
        return n == 0 ? 1 : a * power(a, n - 1);
    }

    public int longest(int r) {
        if (!within(r, 0, 5)) {
            return BAD;
        }
        if (now.many() == 0) {
            return STATE;
        }
        for (int n = 6; n > 0; n--) {
            for (int k = 0; k < power(now.many(), n); k++) {
                if (now.scream() == 0 && greatestBehind(handing(n, k)) != NONE) {
                    rows[r] = handing(n, k);
                    return n;
                }
            }
        }
        rows[r] = new int[0];
        return 0;
    }

    public int calmest(int n, int r) {
        if (!within(n, 0, 6) || !within(r, 0, 5)) {
            return BAD;
        }
        if (now.many() == 0) {
            return STATE;
        }
        int least = NONE;
        for (int k = 0; k < power(now.many(), n) && now.scream() == 0; k++) {
            int greatest = greatestBehind(handing(n, k));
            if (greatest != NONE && (least == NONE || greatest < least)) {
                least = greatest;
                rows[r] = handing(n, k);
            }
        }
        return least;
    }

    private static void orders(List<Integer> begun, int many, List<List<Integer>> all) {
        if (begun.size() == many) {
            all.add(new ArrayList<>(begun));
        }
        for (int x = 0; x < many; x++) {
            if (!begun.contains(x)) {
                begun.add(x);
                orders(begun, many, all);
                begun.remove(begun.size() - 1);
            }
        }
    }

    private int tillSeated(List<Integer> seating) {
        Now n = now.same();
        n.seating = seating;
        return n.till(n.law, 100);
    }

    public int order(int r) {
        if (!within(r, 0, 5)) {
            return BAD;
        }
        if (now.many() == 0) {
            return STATE;
        }
        List<List<Integer>> all = new ArrayList<>();
        orders(new ArrayList<>(), now.many(), all);
        List<Integer> best = null;
        int holding = 0;
        for (List<Integer> seating : all) {
            int k = tillSeated(seating);
            if (best == null || rank(k) > rank(holding)) {
                best = seating;
                holding = k;
            }
        }
        rows[r] = best.stream().mapToInt(v -> v).toArray();
        return holding;
    }

    public int swap() {
        if (now.many() == 0) {
            return STATE;
        }
        int pair = NONE;
        int holding = tillSeated(now.seating);
        for (int a = 0; a < now.many(); a++) {
            for (int b = a + 1; b < now.many(); b++) {
                List<Integer> seating = new ArrayList<>(now.seating);
                java.util.Collections.swap(seating, a, b);
                int k = tillSeated(seating);
                if (rank(k) > rank(holding)) {
                    holding = k;
                    pair = 10 * a + b;
                }
            }
        }
        told = pair == NONE ? told : holding;
        return pair;
    }

    public int spare(int n) {
        if (!within(n, 0, 60)) {
            return BAD;
        }
        if (now.many() == 0) {
            return STATE;
        }
        for (int v = 0; v <= 99; v++) {
            Now other = now.same();
            other.oil = v;
            if (other.till(other.law, n) == NONE) {
                return v;
            }
        }
        return NONE;
    }

    public int teller() {
        if (now.many() == 0 || now.scream() != 0) {
            return STATE;
        }
        int best = NONE;
        for (int x = now.many() - 1; x >= 0; x--) {
            Now n = now.same();
            n.story(x);
            if (best == NONE || n.greatest() <= told) {
                best = x;
                told = n.greatest();
            }
        }
        return best;
    }

    private int handingsRefused(int r) {
        if (rows[r] == null) {
            return found(1);
        }
        return Arrays.stream(rows[r]).allMatch(this::one) ? 0 : found(3);
    }

    private static int firstOther(Now from, int[] who) {
        Now n = from.same();
        for (int k = 0; k < who.length; k++) {
            if (n.by(n.law) != who[k]) {
                return k;
            }
            n.minute(who[k]);
        }
        return who.length;
    }

    public int judge(int r) {
        if (!within(r, 0, 5)) {
            return BAD;
        }
        if (now.many() == 0) {
            return STATE;
        }
        int refused = handingsRefused(r);
        if (refused != 0) {
            return refused;
        }
        told = NONE;
        for (int k = rows[r].length; k >= 0; k--) {
            Now n = now.same();
            for (int i = 0; i < k; i++) {
                n.minute(rows[r][i]);
            }
            told = n.scream() != 0 ? k : told;
        }
        return firstOther(now, rows[r]);
    }

    public int liars(int r) {
        if (!within(r, 0, 5)) {
            return BAD;
        }
        if (now.many() == 0) {
            return STATE;
        }
        int refused = handingsRefused(r);
        if (refused != 0) {
            return refused;
        }
        int sets = 0;
        told = NONE;
        for (int set = 31; set >= 0; set--) {
            Now n = now.same();
            boolean can = set < 1 << n.many();
            for (int x = 0; x < n.many(); x++) {
                n.lie.set(x, (set & 1 << x) != 0);
                can &= !(n.lie.get(x) && n.kinds.get(x).equals("g"));
            }
            if (can && firstOther(n, rows[r]) == rows[r].length) {
                sets++;
                told = set;
            }
        }
        return sets;
    }

    public int grows(int x, int r) {
        return fitting(x, r, true);
    }

    public int fears(int x, int r) {
        return fitting(x, r, false);
    }

    private int fitting(int x, int r, boolean ofGrows) {
        if (!one(x) || !within(r, 0, 5)) {
            return BAD;
        }
        int refused = handingsRefused(r);
        if (refused != 0) {
            return refused;
        }
        int bits = 0;
        for (int v = 0; v <= 9; v++) {
            Now n = now.same();
            if (ofGrows) {
                n.ways.get(x)[0] = v;
            } else {
                n.fears.set(x, v);
            }
            bits += firstOther(n, rows[r]) == rows[r].length ? 1 << v : 0;
        }
        return bits;
    }

    public int tell(int law, int n, int r) {
        if (!within(law, 0, 3) || !within(n, 0, 60) || !within(r, 0, 5)) {
            return BAD;
        }
        if (now.many() == 0) {
            return STATE;
        }
        List<Integer> had = now.behind(law, n).had;
        rows[r] = had.subList(now.had.size(), had.size()).stream().mapToInt(v -> v).toArray();
        return rows[r].length;
    }

    public int visit(int n, int seed) {
        if (!within(n, 1, 60) || !within(seed, 1, 2147483646)) {
            return BAD;
        }
        if (now.many() == 0) {
            return STATE;
        }
        Now later = now.same();
        java.math.BigInteger lot = java.math.BigInteger.valueOf(seed);
        int went = 0;
        for (; went < n && later.scream() == 0; went++) {
            lot = lot.multiply(java.math.BigInteger.valueOf(48271)).mod(java.math.BigInteger.valueOf(2147483647));
            later.minute(lot.intValue() % later.many());
        }
        told = later.greatest();
        return went;
    }

    public int asked() {
        return told;
    }

    private int part(boolean upper) {
        int screams = now.ways.stream().mapToInt(w -> w[2]).sum();
        if (now.many() == 0) {
            return upper ? 0 : 1;
        }
        int divisor = 1;
        for (int d = 1; d <= screams; d++) {
            divisor = screams % d == 0 && now.sum() % d == 0 ? d : divisor;
        }
        return (upper ? now.sum() : screams) / divisor;
    }

    public long upper() {
        return part(true);
    }

    public long lower() {
        return part(false);
    }

    public int count(int what) {
        switch (what) {
            case 0:
                return now.many();
            case 1:
                return now.had.size();
            case 2:
                return now.oil;
            case 3:
                return (int) now.kinds.stream().filter(k -> "csg".contains(k)).count();
            case 4:
                return Integer.bitCount(now.scream());
            case 5:
                return (int) Arrays.stream(kept).filter(k -> k != null).count();
            case 6:
                return (int) Arrays.stream(rows).filter(k -> k != null).count();
            case 7:
                return (int) Arrays.stream(texts).filter(k -> k != null).count();
            default:
                return BAD;
        }
    }

    public int finding() {
        return latest;
    }

    public int findings(int f) {
        return within(f, 1, 5) ? times[f] : BAD;
    }

    public long digest() {
        List<Integer> all = new ArrayList<>();
        for (int what = 0; what < 8; what++) {
            all.add(count(what));
        }
        all.add(now.ring ? 1 : 0);
        all.add(now.law);
        for (int x = 0; x < now.many(); x++) {
            for (int what = 0; what < 6; what++) {
                all.add(of(x, what));
            }
        }
        all.addAll(now.had);
        for (Now k : kept) {
            all.add(k == null ? -1 : k.had.size());
        }
        for (int[] r : rows) {
            all.add(r == null ? -1 : r.length);
            for (int i = 0; r != null && i < r.length; i++) {
                all.add(r[i]);
            }
        }
        for (byte[] t : texts) {
            all.add(t == null ? -1 : t.length);
            for (int i = 0; t != null && i < t.length; i++) {
                all.add((int) t[i]);
            }
        }
        long h = 17;
        for (int v : all) {
            h = 31 * h + v;
        }
        return h;
    }
}
