import java.util.Arrays;

/**
 * Some in a cave have one lamp, and whoever is most afraid has it. The document's promises say what each call answers.
 * Calls make no objects, but for the three places that CAVES are kept in: whatever a call needs is made with the
 * LampCave and used again.
 */
public final class LampCave {
    public static final int BAD = -1, FULL = -2, FINDING = -3, STATE = -4, SPENT = -6, NONE = -9;

    private static final int NOTHING = 1, BEYOND = 2, UNLIKE = 3, NOUGHT = 4, SIZE = 5;
    private static final int ROWS = 6, MOST_INTS = 60, TEXTS = 4, MOST_BYTES = 80, KEPT = 3;
    private static final int MOST_PEOPLE = 5, MOST_MINUTES = 120, MOST_AT_ONCE = 60, MOST_ASIDE = 100;
    private static final int MOST_FEAR = 99, MOST_OIL = 99, LAWS = 4, FIGURES = 10, MOST_HANDED = 6;
    private static final int ONE = 0, CALM = 1, CHILD = 2, LIAR = 3, SINGER = 4, GUIDE = 5;
    private static final int NOBODY = -1, BLANK = 32;
    private static final long LOT_FACTOR = 48271L, LOT_MODULUS = 2147483647L;

    private final int[][] rows = new int[ROWS][MOST_INTS];
    private final int[] rowSize = new int[ROWS];
    private final byte[][] texts = new byte[TEXTS][MOST_BYTES];
    private final int[] textSize = new int[TEXTS];
    private final Cave now = new Cave();
    private final Cave draft = new Cave();
    private final Cave[] kept = new Cave[KEPT];
    private final Reader reader = new Reader();
    private final Aside aside = new Aside();
    private final Search search = new Search();
    private final int[] seats = new int[MOST_PEOPLE];
    private final int[] bestSeats = new int[MOST_PEOPLE];
    private final int[] findingTimes = new int[SIZE + 1];
    private int latestFinding = 0;
    private int told = 0;

    public LampCave() {
        Arrays.fill(rowSize, -1);
        Arrays.fill(textSize, -1);
    }

    // ---- 1 rows, texts, caves

    public int row(int r, int n) {
        if (!isRow(r) || n > MOST_INTS) {
            return BAD;
        }
        if (n < 0) {
            return found(SIZE);
        }
        Arrays.fill(rows[r], 0);
        rowSize[r] = n;
        return n;
    }

    public int lay(int r, int i, int v) {
        int refused = placeRefusal(r, i);
        if (refused != 0) {
            return refused;
        }
        told = rows[r][i];
        rows[r][i] = v;
        return 1;
    }

    public int at(int r, int i) {
        int refused = placeRefusal(r, i);
        if (refused != 0) {
            return refused;
        }
        told = rows[r][i];
        return 1;
    }

    public int tear(int r) {
        int refused = rowRefusal(r);
        if (refused != 0) {
            return refused;
        }
        rowSize[r] = -1;
        return 1;
    }

    public int copy(int r, int i, int to, int j, int n) {
        if (!isRow(r) || !isRow(to)) {
            return BAD;
        }
        if (n < 0) {
            return found(SIZE);
        }
        if (rowSize[r] < 0 || rowSize[to] < 0) {
            return found(NOTHING);
        }
        if (!hasPlaces(rowSize[r], i, n) || !hasPlaces(rowSize[to], j, n)) {
            return found(BEYOND);
        }
        System.arraycopy(rows[r], i, rows[to], j, n);
        return 1;
    }

    public int mean(int r) {
        int refused = rowRefusal(r);
        if (refused != 0) {
            return refused;
        }
        int size = rowSize[r];
        if (size <= 0) {
            return found(NOUGHT);
        }
        long sum = 0;
        for (int i = 0; i < size; i++) {
            sum += rows[r][i];
        }
        told = (int) (sum / size);
        return 1;
    }

    public int text(int t, int n) {
        if (!isText(t) || n > MOST_BYTES) {
            return BAD;
        }
        if (n < 0) {
            return found(SIZE);
        }
        Arrays.fill(texts[t], (byte) BLANK);
        textSize[t] = n;
        return n;
    }

    public int put(int t, int i, int v) {
        int refused = textRefusal(t);
        if (refused != 0) {
            return refused;
        }
        if (i < 0 || i >= textSize[t]) {
            return found(BEYOND);
        }
        int was = texts[t][i];
        texts[t][i] = (byte) v;
        return was + 1000;
    }

    public int fault(int t) {
        int refused = textRefusal(t);
        if (refused != 0) {
            return refused;
        }
        return reader.read(texts[t], textSize[t], draft);
    }

    public int cave(int t) {
        int refused = textRefusal(t);
        if (refused != 0) {
            return refused;
        }
        if (reader.read(texts[t], textSize[t], draft) != NONE) {
            return STATE;
        }
        now.become(draft);
        forgetKept();
        return now.people;
    }

    public int person(int x, int what) {
        if (!isOne(x) || what < 0 || what > 5) {
            return BAD;
        }
        told = ofPerson(x, what);
        return 1;
    }

    public int mark(int x, int kind) {
        if (!isOne(x) || kind < CALM || kind > GUIDE) {
            return BAD;
        }
        if (!isOfKind(now.kind[x], kind)) {
            return found(UNLIKE);
        }
        aside.begin(now);
        switch (kind) {
            case CALM:
                return Integer.bitCount(aside.bitsBeside(x));
            case CHILD:
                return aside.moreAfraid(x, aside.bitsBeside(x));
            case LIAR:
                return aside.moreAfraid(x, aside.bitsOfAll());
            case SINGER:
                return aside.singers() - 1;
            default:
                return now.timesHeld(x);
        }
    }

    public int law(int v) {
        if (!isLaw(v)) {
            return BAD;
        }
        if (now.people == 0) {
            return STATE;
        }
        int was = now.law;
        now.law = v;
        return was;
    }

    public int oil(int v) {
        if (v < 0 || v > MOST_OIL) {
            return BAD;
        }
        if (now.people == 0) {
            return STATE;
        }
        int was = now.oil;
        now.oil = v;
        return was;
    }

    public int fear(int x, int v) {
        if (!isOne(x) || v < 0 || v > MOST_FEAR) {
            return BAD;
        }
        int was = now.fear[x];
        now.fear[x] = v;
        return was;
    }

    // ---- 2 minutes

    public int minutes(int n) {
        if (!isSpan(n)) {
            return BAD;
        }
        if (now.people == 0) {
            return STATE;
        }
        if (now.minute + n > MOST_MINUTES) {
            return FULL;
        }
        aside.begin(now);
        int went = 0;
        while (went < n && !aside.isOver()) {
            passMinute(aside.byLaw(now.law));
            went++;
        }
        return went;
    }

    public int hand(int x) {
        if (!isOne(x)) {
            return BAD;
        }
        aside.begin(now);
        if (aside.isOver()) {
            return STATE;
        }
        if (now.minute >= MOST_MINUTES) {
            return FULL;
        }
        passMinute(x);
        return now.fear[x];
    }

    public int next() {
        aside.begin(now);
        if (now.people == 0 || aside.isOver()) {
            return STATE;
        }
        return aside.byLaw(now.law);
    }

    public int had(int minute) {
        if (minute < 0) {
            return BAD;
        }
        if (minute >= now.minute) {
            return found(BEYOND);
        }
        return now.holder[minute];
    }

    public int undo(int n) {
        if (n < 0 || n > now.minute) {
            return BAD;
        }
        int undone = now.minute - n;
        now.backTo(n);
        return undone;
    }

    public int over() {
        aside.begin(now);
        told = aside.whoScream();
        return told != 0 ? 1 : 0;
    }

    public int story(int x) {
        if (!isOne(x)) {
            return BAD;
        }
        aside.begin(now);
        if (aside.isOver()) {
            return STATE;
        }
        aside.tellStory(x);
        now.take(aside);
        return aside.fearTogether();
    }

    public int song(int v) {
        if (v < 1 || v > MOST_FEAR) {
            return BAD;
        }
        aside.begin(now);
        if (now.people == 0 || aside.isOver() || aside.greatestFear() >= v) {
            return STATE;
        }
        aside.sing();
        now.take(aside);
        return aside.fearTogether();
    }

    public int keep(int k) {
        if (!isKeepingPlace(k)) {
            return BAD;
        }
        if (now.people == 0) {
            return STATE;
        }
        Cave place = kept[k];
        if (place == null) {
            place = new Cave();
            kept[k] = place;
        }
        place.become(now);
        return now.minute;
    }

    public int on(int k) {
        if (!isKeepingPlace(k)) {
            return BAD;
        }
        Cave place = kept[k];
        if (place == null || place.people == 0) {
            return found(NOTHING);
        }
        now.become(place);
        return now.minute;
    }

    // ---- 3 how long (aside, from as it is)

    public int holds(int law) {
        if (!isLaw(law)) {
            return BAD;
        }
        if (now.people == 0) {
            return STATE;
        }
        aside.begin(now);
        int holding = aside.howLong(law, MOST_ASIDE);
        if (holding != NONE) {
            told = aside.whoScream();
        }
        return holding;
    }

    public int best() {
        if (now.people == 0) {
            return STATE;
        }
        int bestLaw = 0;
        int bestHolding = 0;
        for (int law = 0; law < LAWS; law++) {
            aside.begin(now);
            int holding = aside.howLong(law, MOST_ASIDE);
            if (law == 0 || isLonger(holding, bestHolding)) {
                bestLaw = law;
                bestHolding = holding;
            }
        }
        told = bestHolding;
        return bestLaw;
    }

    public int rest() {
        if (now.people == 0) {
            return STATE;
        }
        aside.begin(now);
        aside.endlessOil = true;
        // Two places to save in are enough: the one of k's parity holds how it was 2 MINUTES ahead of k.
        for (int k = 0; k <= MOST_ASIDE && !aside.isOver(); k++) {
            if (k >= 2 && aside.isAsSaved(k % 2)) {
                return k;
            }
            aside.save(k % 2);
            aside.pass(aside.byLaw(now.law));
        }
        return NONE;
    }

    public int worst(int n) {
        if (!isSpan(n)) {
            return BAD;
        }
        if (now.people == 0) {
            return STATE;
        }
        aside.begin(now);
        aside.goOn(now.law, n);
        told = aside.mostAfraid();
        return aside.greatestFear();
    }

    public int often(int x, int n) {
        if (!isOne(x) || !isSpan(n)) {
            return BAD;
        }
        aside.begin(now);
        int went = aside.goOn(now.law, n);
        int times = 0;
        for (int k = 0; k < went; k++) {
            times += aside.holders[k] == x ? 1 : 0;
        }
        return times;
    }

    // ---- 4 which handing, which order

    public int longest(int r) {
        if (!isRow(r)) {
            return BAD;
        }
        if (now.people == 0) {
            return STATE;
        }
        aside.begin(now);
        search.findLongest(aside);
        fillRow(r, search.best, search.bestLength);
        return search.bestLength;
    }

    public int calmest(int n, int r) {
        if (n < 0 || n > MOST_HANDED || !isRow(r)) {
            return BAD;
        }
        if (now.people == 0) {
            return STATE;
        }
        aside.begin(now);
        search.findCalmest(aside, n);
        if (search.bestLength < 0) {
            return NONE;
        }
        fillRow(r, search.best, search.bestLength);
        return search.leastFear;
    }

    public int order(int r) {
        if (!isRow(r)) {
            return BAD;
        }
        if (now.people == 0) {
            return STATE;
        }
        sitByNumbers();
        int longestHolding = holdingAsSeated();
        System.arraycopy(seats, 0, bestSeats, 0, MOST_PEOPLE);
        // 120 orders of 5 at most; nextSeating() ends it sooner.
        for (int k = 0; k < 120 && nextSeating(); k++) {
            int holding = holdingAsSeated();
            if (isLonger(holding, longestHolding)) {
                longestHolding = holding;
                System.arraycopy(seats, 0, bestSeats, 0, MOST_PEOPLE);
            }
        }
        fillRow(r, bestSeats, now.people);
        return longestHolding;
    }

    public int swap() {
        if (now.people == 0) {
            return STATE;
        }
        sitByNumbers();
        int longestHolding = holdingAsSeated();
        int bestPair = NONE;
        for (int a = 0; a < now.people; a++) {
            for (int b = a + 1; b < now.people; b++) {
                exchangeSeats(a, b);
                int holding = holdingAsSeated();
                exchangeSeats(a, b);
                if (isLonger(holding, longestHolding)) {
                    longestHolding = holding;
                    bestPair = 10 * a + b;
                }
            }
        }
        if (bestPair != NONE) {
            told = longestHolding;
        }
        return bestPair;
    }

    public int spare(int n) {
        if (!isSpan(n)) {
            return BAD;
        }
        if (now.people == 0) {
            return STATE;
        }
        for (int v = 0; v <= MOST_OIL; v++) {
            aside.begin(now);
            aside.oil = v;
            if (aside.howLong(now.law, n) == NONE) {
                return v;
            }
        }
        return NONE;
    }

    public int teller() {
        aside.begin(now);
        if (now.people == 0 || aside.isOver()) {
            return STATE;
        }
        int bestTeller = 0;
        int leastFear = 0;
        for (int x = 0; x < now.people; x++) {
            aside.begin(now);
            aside.tellStory(x);
            int greatest = aside.greatestFear();
            if (x == 0 || greatest < leastFear) {
                bestTeller = x;
                leastFear = greatest;
            }
        }
        told = leastFear;
        return bestTeller;
    }

    // ---- 5 handings judged, learnt

    public int judge(int r) {
        int refused = handingsRefusal(r);
        if (refused != 0) {
            return refused;
        }
        aside.begin(now);
        int size = rowSize[r];
        int firstOther = size;
        int overBehind = aside.isOver() ? 0 : NONE;
        for (int k = 0; k < size; k++) {
            int holder = rows[r][k];
            if (firstOther == size && aside.byLaw(now.law) != holder) {
                firstOther = k;
            }
            aside.pass(holder);
            if (overBehind == NONE && aside.isOver()) {
                overBehind = k + 1;
            }
        }
        told = overBehind;
        return firstOther;
    }

    public int liars(int r) {
        int refused = handingsRefusal(r);
        if (refused != 0) {
            return refused;
        }
        int guides = now.bitsOfKind(GUIDE);
        int sets = 0;
        int least = NONE;
        for (int set = 0; set < 1 << now.people; set++) {
            aside.begin(now);
            aside.liars = set;
            if ((set & guides) == 0 && allByLaw(r)) {
                least = sets == 0 ? set : least;
                sets++;
            }
        }
        told = least;
        return sets;
    }

    public int grows(int x, int r) {
        return figuresThatFit(x, r, aside.grows);
    }

    public int fears(int x, int r) {
        return figuresThatFit(x, r, aside.fear);
    }

    public int tell(int law, int n, int r) {
        if (!isLaw(law) || !isSpan(n) || !isRow(r)) {
            return BAD;
        }
        if (now.people == 0) {
            return STATE;
        }
        aside.begin(now);
        int went = aside.goOn(law, n);
        fillRow(r, aside.holders, went);
        return went;
    }

    // ---- 6 visits

    public int visit(int n, int seed) {
        if (n < 1 || !isSpan(n) || seed < 1 || seed >= LOT_MODULUS) {
            return BAD;
        }
        int many = now.people;
        if (many <= 0) {
            return STATE;
        }
        aside.begin(now);
        long lot = seed;
        int went = 0;
        while (went < n && !aside.isOver()) {
            lot = lot * LOT_FACTOR % LOT_MODULUS;
            aside.pass((int) (lot % many));
            went++;
        }
        told = aside.greatestFear();
        return went;
    }

    // ---- 7 what is told

    public int asked() {
        return told;
    }

    public long upper() {
        int fearSum = now.sumOf(now.fear);
        int divisor = greatestDivisor(fearSum, now.sumOf(now.screams));
        return divisor > 0 ? fearSum / divisor : 0;
    }

    public long lower() {
        int screamSum = now.sumOf(now.screams);
        int divisor = greatestDivisor(now.sumOf(now.fear), screamSum);
        return divisor > 0 ? screamSum / divisor : 1;
    }

    public int count(int what) {
        if (what < 0 || what > 7) {
            return BAD;
        }
        return howMany(what);
    }

    public int finding() {
        return latestFinding;
    }

    public int findings(int f) {
        return f < NOTHING || f > SIZE ? BAD : findingTimes[f];
    }

    public long digest() {
        long h = 17;
        for (int what = 0; what <= 7; what++) {
            h = 31 * h + howMany(what);
        }
        h = 31 * h + now.form;
        h = 31 * h + now.law;
        for (int x = 0; x < now.people; x++) {
            for (int what = 0; what <= 5; what++) {
                h = 31 * h + ofPerson(x, what);
            }
        }
        for (int m = 0; m < now.minute; m++) {
            h = 31 * h + now.holder[m];
        }
        for (int k = 0; k < KEPT; k++) {
            h = 31 * h + keptMinute(k);
        }
        return withTexts(withRows(h));
    }

    // ---- what several calls use

    private static boolean isRow(int r) {
        return r >= 0 && r < ROWS;
    }

    private static boolean isText(int t) {
        return t >= 0 && t < TEXTS;
    }

    private static boolean isLaw(int v) {
        return v >= 0 && v < LAWS;
    }

    private static boolean isSpan(int n) {
        return n >= 0 && n <= MOST_AT_ONCE;
    }

    private static boolean isKeepingPlace(int k) {
        return k >= 0 && k < KEPT;
    }

    private boolean isOne(int x) {
        return x >= 0 && x < now.people;
    }

    private static boolean isOfKind(int kind, int wanted) {
        return kind == wanted || wanted == CALM && (kind == SINGER || kind == GUIDE);
    }

    private static boolean hasPlaces(int size, int from, int n) {
        return from >= 0 && from <= size && n <= size - from;
    }

    private int found(int f) {
        if (f >= NOTHING && f <= SIZE) {
            latestFinding = f;
            findingTimes[f]++;
        }
        return FINDING;
    }

    // What refuses a ROW, a place of one, a TEXT, a ROW as handings; 0: nothing does.

    private int rowRefusal(int r) {
        if (!isRow(r)) {
            return BAD;
        }
        return rowSize[r] < 0 ? found(NOTHING) : 0;
    }

    private int placeRefusal(int r, int i) {
        int refused = rowRefusal(r);
        if (refused != 0) {
            return refused;
        }
        return i < 0 || i >= rowSize[r] ? found(BEYOND) : 0;
    }

    private int textRefusal(int t) {
        if (!isText(t)) {
            return BAD;
        }
        return textSize[t] < 0 ? found(NOTHING) : 0;
    }

    private int handingsRefusal(int r) {
        if (!isRow(r)) {
            return BAD;
        }
        if (now.people == 0) {
            return STATE;
        }
        if (rowSize[r] < 0) {
            return found(NOTHING);
        }
        for (int k = 0; k < rowSize[r]; k++) {
            if (!isOne(rows[r][k])) {
                return found(UNLIKE);
            }
        }
        return 0;
    }

    private void fillRow(int r, int[] from, int n) {
        int size = Math.min(Math.max(n, 0), Math.min(from.length, MOST_INTS));
        System.arraycopy(from, 0, rows[r], 0, size);
        rowSize[r] = size;
    }

    private int ofPerson(int x, int what) {
        switch (what) {
            case 0:
                return now.kind[x];
            case 1:
                return now.fear[x];
            case 2:
                return now.grows[x];
            case 3:
                return now.falls[x];
            case 4:
                return now.screams[x];
            default:
                aside.begin(now);
                return aside.shows(x);
        }
    }

    private int howMany(int what) {
        switch (what) {
            case 0:
                return now.people;
            case 1:
                return now.minute;
            case 2:
                return now.oil;
            case 3:
                return Integer.bitCount(now.bitsOfKind(CALM));
            case 4:
                aside.begin(now);
                return Integer.bitCount(aside.whoScream());
            case 5:
                return keptCaves();
            case 6:
                return thereOf(rowSize);
            default:
                return thereOf(textSize);
        }
    }

    private int keptCaves() {
        int many = 0;
        for (int k = 0; k < KEPT; k++) {
            many += keptMinute(k) >= 0 ? 1 : 0;
        }
        return many;
    }

    /** -1: the kept CAVE is missing. None without PEOPLE is ever kept: such a one is a place to be used again. */
    private int keptMinute(int k) {
        Cave place = kept[k];
        return place == null || place.people == 0 ? -1 : place.minute;
    }

    private void forgetKept() {
        for (int k = 0; k < KEPT; k++) {
            Cave place = kept[k];
            if (place != null) {
                place.clear();
            }
        }
    }

    private static int thereOf(int[] sizes) {
        int there = 0;
        for (int size : sizes) {
            there += size >= 0 ? 1 : 0;
        }
        return there;
    }

    private long withRows(long h) {
        for (int r = 0; r < ROWS; r++) {
            h = 31 * h + rowSize[r];
            for (int i = 0; i < rowSize[r]; i++) {
                h = 31 * h + rows[r][i];
            }
        }
        return h;
    }

    private long withTexts(long h) {
        for (int t = 0; t < TEXTS; t++) {
            h = 31 * h + textSize[t];
            for (int i = 0; i < textSize[t]; i++) {
                h = 31 * h + texts[t][i];
            }
        }
        return h;
    }

    /** 0 of two noughts alone. */
    private static int greatestDivisor(int a, int b) {
        // 64 steps are far more than two sums below 500 need.
        for (int step = 0; step < 64 && b != 0; step++) {
            int left = a % b;
            a = b;
            b = left;
        }
        return a;
    }

    /** The MINUTE goes by in the CAVE itself; aside is as the CAVE is, ahead and behind. */
    private void passMinute(int holder) {
        now.remember(holder);
        aside.pass(holder);
        now.take(aside);
    }

    /** NONE, which says that nobody screams, is longest of all. */
    private static boolean isLonger(int holding, int than) {
        return than != NONE && (holding == NONE || holding > than);
    }

    /** Figures (bits) that one may have in a row of aside, so that all handings in a ROW are by THE LAW. */
    private int figuresThatFit(int x, int r, int[] ofEach) {
        if (!isOne(x)) {
            return BAD;
        }
        int refused = handingsRefusal(r);
        if (refused != 0) {
            return refused;
        }
        int fitting = 0;
        for (int v = 0; v < FIGURES; v++) {
            aside.begin(now);
            ofEach[x] = v;
            fitting |= allByLaw(r) ? 1 << v : 0;
        }
        return fitting;
    }

    private boolean allByLaw(int r) {
        for (int k = 0; k < rowSize[r]; k++) {
            if (aside.byLaw(now.law) != rows[r][k]) {
                return false;
            }
            aside.pass(rows[r][k]);
        }
        return true;
    }

    private void sitByNumbers() {
        for (int x = 0; x < MOST_PEOPLE; x++) {
            seats[x] = x;
        }
    }

    private void exchangeSeats(int a, int b) {
        int sitting = seats[a];
        seats[a] = seats[b];
        seats[b] = sitting;
    }

    private int holdingAsSeated() {
        aside.begin(now);
        aside.sit(seats);
        return aside.howLong(now.law, MOST_ASIDE);
    }

    /** The next order by numbers comes to seats; false: there is none. */
    private boolean nextSeating() {
        int rising = now.people - 2;
        while (rising >= 0 && seats[rising] > seats[rising + 1]) {
            rising--;
        }
        if (rising < 0) {
            return false;
        }
        int greater = now.people - 1;
        while (greater > rising && seats[greater] < seats[rising]) {
            greater--;
        }
        exchangeSeats(rising, greater);
        int last = now.people - 1;
        for (int first = rising + 1; first < last; first++) {
            exchangeSeats(first, last);
            last--;
        }
        return true;
    }

    /** PEOPLE, OIL, THE LAW, and each MINUTE that went with how it was ahead of it. */
    private static final class Cave {
        int people;
        int form;
        int law;
        int oil;
        int minute;
        final int[] kind = new int[MOST_PEOPLE];
        final int[] fear = new int[MOST_PEOPLE];
        final int[] grows = new int[MOST_PEOPLE];
        final int[] falls = new int[MOST_PEOPLE];
        final int[] screams = new int[MOST_PEOPLE];
        final int[] holder = new int[MOST_MINUTES];
        final int[] oilAhead = new int[MOST_MINUTES];
        final int[] fearAhead = new int[MOST_MINUTES * MOST_PEOPLE];

        void clear() {
            people = 0;
            form = 0;
            law = 0;
            oil = 0;
            minute = 0;
        }

        void become(Cave other) {
            people = other.people;
            form = other.form;
            law = other.law;
            oil = other.oil;
            minute = other.minute;
            System.arraycopy(other.kind, 0, kind, 0, MOST_PEOPLE);
            System.arraycopy(other.fear, 0, fear, 0, MOST_PEOPLE);
            System.arraycopy(other.grows, 0, grows, 0, MOST_PEOPLE);
            System.arraycopy(other.falls, 0, falls, 0, MOST_PEOPLE);
            System.arraycopy(other.screams, 0, screams, 0, MOST_PEOPLE);
            System.arraycopy(other.holder, 0, holder, 0, MOST_MINUTES);
            System.arraycopy(other.oilAhead, 0, oilAhead, 0, MOST_MINUTES);
            System.arraycopy(other.fearAhead, 0, fearAhead, 0, MOST_MINUTES * MOST_PEOPLE);
        }

        /** How it is, ahead of a MINUTE in which one has the lamp. */
        void remember(int who) {
            if (minute < MOST_MINUTES) {
                holder[minute] = who;
                oilAhead[minute] = oil;
                System.arraycopy(fear, 0, fearAhead, minute * MOST_PEOPLE, MOST_PEOPLE);
            }
        }

        /** As it was ahead of MINUTE n; all stays, if that has not gone by. */
        void backTo(int n) {
            if (n >= 0 && n < minute) {
                minute = n;
                oil = oilAhead[n];
                System.arraycopy(fearAhead, n * MOST_PEOPLE, fear, 0, MOST_PEOPLE);
            }
        }

        void take(Aside aside) {
            oil = aside.oil;
            minute = aside.minute;
            System.arraycopy(aside.fear, 0, fear, 0, MOST_PEOPLE);
        }

        int lastHolder() {
            return minute > 0 && minute <= MOST_MINUTES ? holder[minute - 1] : NOBODY;
        }

        int timesHeld(int x) {
            int times = 0;
            for (int m = 0; m < minute; m++) {
                times += holder[m] == x ? 1 : 0;
            }
            return times;
        }

        int bitsOfKind(int wanted) {
            int bits = 0;
            for (int x = 0; x < people; x++) {
                bits |= isOfKind(kind[x], wanted) ? 1 << x : 0;
            }
            return bits;
        }

        int sumOf(int[] each) {
            int sum = 0;
            for (int x = 0; x < people && x < each.length; x++) {
                sum += each[x];
            }
            return sum;
        }
    }

    /** Reads a CAVE from a TEXT up to its FAULT. */
    private static final class Reader {
        private static final int END = 1000;
        private byte[] signs = new byte[0];
        private int size;
        private int place;
        private int faultPlace;

        /** The FAULT, or NONE: only then the CAVE is as told. */
        int read(byte[] text, int textSize, Cave into) {
            signs = text;
            size = Math.min(textSize, text.length);
            place = 0;
            faultPlace = NONE;
            into.clear();
            readHead(into);
            // One round more than PEOPLE may be, so that a sixth one is seen.
            for (int x = 0; x <= MOST_PEOPLE && faultPlace == NONE; x++) {
                skipBlanks();
                if (place >= size) {
                    break;
                }
                readOne(into, x);
            }
            if (into.people == 0) {
                // What is told without PEOPLE is 0.
                into.clear();
            }
            return faultPlace;
        }

        private void readHead(Cave into) {
            skipBlanks();
            take(sign() == 'w');
            int form = sign();
            take(form == 'r' || form == 'o');
            into.form = form == 'o' ? 1 : 0;
            into.law = figure(0, LAWS - 1);
            into.oil = 10 * figure(0, 9);
        }

        private void readOne(Cave into, int x) {
            int kind = kindOf(sign());
            take(x < MOST_PEOPLE && kind >= 0);
            int fear = figure(0, 9);
            int grows = figure(0, 9);
            int falls = figure(0, 9);
            int screams = 5 * figure(1, 9);
            if (faultPlace == NONE && x < MOST_PEOPLE) {
                into.kind[x] = kind;
                into.fear[x] = fear;
                into.grows[x] = grows;
                into.falls[x] = falls;
                into.screams[x] = screams;
                into.people = x + 1;
            }
        }

        private int sign() {
            return place < size ? signs[place] : END;
        }

        private void take(boolean fits) {
            if (faultPlace != NONE) {
                return;
            }
            if (fits) {
                place++;
            } else {
                faultPlace = place;
            }
        }

        private int figure(int least, int most) {
            int v = sign() - '0';
            boolean fits = v >= least && v <= most;
            take(fits);
            return fits ? v : 0;
        }

        private void skipBlanks() {
            while (place < size && signs[place] == BLANK) {
                place++;
            }
        }

        private static int kindOf(int letter) {
            switch (letter) {
                case 'p':
                    return ONE;
                case 'c':
                    return CALM;
                case 'k':
                    return CHILD;
                case 'l':
                    return LIAR;
                case 's':
                    return SINGER;
                case 'g':
                    return GUIDE;
                default:
                    return NONE;
            }
        }
    }

    /** MINUTES gone on with aside: a CAVE is only changed by what it takes from here. */
    private static final class Aside {
        private static final int SAVED = 8;
        int people;
        int form;
        int oil;
        boolean endlessOil;
        int minute;
        int last;
        int liars;
        final int[] kind = new int[MOST_PEOPLE];
        final int[] fear = new int[MOST_PEOPLE];
        final int[] fearThen = new int[MOST_PEOPLE];
        final int[] grows = new int[MOST_PEOPLE];
        final int[] falls = new int[MOST_PEOPLE];
        final int[] screams = new int[MOST_PEOPLE];
        final int[] beside = new int[MOST_PEOPLE];
        final int[] calmBeside = new int[MOST_PEOPLE];
        final int[] holders = new int[MOST_ASIDE];
        final int[] saved = new int[MOST_HANDED * SAVED];

        void begin(Cave cave) {
            people = cave.people;
            form = cave.form;
            oil = cave.oil;
            endlessOil = false;
            minute = cave.minute;
            last = cave.lastHolder();
            liars = cave.bitsOfKind(LIAR);
            System.arraycopy(cave.kind, 0, kind, 0, MOST_PEOPLE);
            System.arraycopy(cave.fear, 0, fear, 0, MOST_PEOPLE);
            System.arraycopy(cave.grows, 0, grows, 0, MOST_PEOPLE);
            System.arraycopy(cave.falls, 0, falls, 0, MOST_PEOPLE);
            System.arraycopy(cave.screams, 0, screams, 0, MOST_PEOPLE);
            Arrays.fill(beside, 0);
            for (int x = 1; x < people; x++) {
                seatTogether(x - 1, x);
            }
            if (form == 1 && people > 2) {
                seatTogether(0, people - 1);
            }
            countCalmBeside();
        }

        /** PEOPLE sit in another order: who sits first, .. */
        void sit(int[] order) {
            Arrays.fill(beside, 0);
            for (int i = 1; i < people && i < order.length; i++) {
                seatTogether(order[i - 1], order[i]);
            }
            if (form == 1 && people > 2 && people <= order.length) {
                seatTogether(order[0], order[people - 1]);
            }
            countCalmBeside();
        }

        private void seatTogether(int a, int b) {
            if (isHere(a) && isHere(b)) {
                beside[a] |= 1 << b;
                beside[b] |= 1 << a;
            }
        }

        private void countCalmBeside() {
            int calm = 0;
            for (int x = 0; x < people; x++) {
                calm |= isOfKind(kind[x], CALM) ? 1 << x : 0;
            }
            for (int x = 0; x < people; x++) {
                calmBeside[x] = Integer.bitCount(beside[x] & calm);
            }
        }

        boolean isHere(int x) {
            return x >= 0 && x < people;
        }

        int bitsOfAll() {
            return (1 << people) - 1;
        }

        int bitsBeside(int x) {
            return isHere(x) ? beside[x] : 0;
        }

        int shows(int x) {
            if (!isHere(x) || kind[x] == GUIDE) {
                return -1;
            }
            return fear[x] + ((liars >> x & 1) != 0 ? 9 : 0);
        }

        int byLaw(int law) {
            if (law != 0 && last == NOBODY) {
                return 0;
            }
            switch (law) {
                case 1:
                    return last + 1 < people ? last + 1 : 0;
                case 2:
                    return showsMost(bitsBeside(last) | 1 << last);
                case 3:
                    return (minute & 1) == 1 ? last : showsMost(bitsOfAll());
                default:
                    return showsMost(bitsOfAll());
            }
        }

        private int showsMost(int among) {
            int who = NOBODY;
            int most = 0;
            for (int x = 0; x < people; x++) {
                if ((among >> x & 1) != 0 && (who == NOBODY || shows(x) > most)) {
                    who = x;
                    most = shows(x);
                }
            }
            return who;
        }

        /** A MINUTE, in which one has the lamp. */
        void pass(int holder) {
            boolean light = endlessOil || oil > 0;
            if (oil > 0 && !endlessOil) {
                oil--;
            }
            for (int x = 0; x < people; x++) {
                int f = fear[x] - calmBeside[x];
                if (light && x == holder) {
                    f -= falls[x];
                } else if (!light || (beside[x] >> holder & 1) == 0) {
                    f += grows[x] + (kind[x] == CHILD ? moreAfraid(x, beside[x]) : 0);
                }
                fearThen[x] = Math.min(Math.max(f, 0), MOST_FEAR);
            }
            System.arraycopy(fearThen, 0, fear, 0, people);
            minute++;
            last = holder;
        }

        /** Who of those told by bits has greater FEAR than one. */
        int moreAfraid(int x, int among) {
            int many = 0;
            for (int other = 0; other < people; other++) {
                many += (among >> other & 1) != 0 && fear[other] > fear[x] ? 1 : 0;
            }
            return many;
        }

        int whoScream() {
            int bits = 0;
            for (int x = 0; x < people; x++) {
                bits |= fear[x] >= screams[x] ? 1 << x : 0;
            }
            return bits;
        }

        boolean isOver() {
            return whoScream() != 0;
        }

        /** MINUTES by a LAW, till it is OVER: how many went; holders tells who had the lamp in each. */
        int goOn(int law, int most) {
            int went = 0;
            while (went < most && went < MOST_ASIDE && !isOver()) {
                holders[went] = byLaw(law);
                pass(holders[went]);
                went++;
            }
            return went;
        }

        /** Behind how many MINUTES by a LAW it is OVER; NONE: not in so many. */
        int howLong(int law, int most) {
            int went = goOn(law, most);
            return isOver() ? went : NONE;
        }

        int greatestFear() {
            int who = mostAfraid();
            return isHere(who) ? fear[who] : 0;
        }

        int mostAfraid() {
            int who = 0;
            for (int x = 1; x < people; x++) {
                who = fear[x] > fear[who] ? x : who;
            }
            return who;
        }

        int fearTogether() {
            int sum = 0;
            for (int x = 0; x < people; x++) {
                sum += fear[x];
            }
            return sum;
        }

        int singers() {
            int many = 0;
            for (int x = 0; x < people; x++) {
                many += kind[x] == SINGER ? 1 : 0;
            }
            return many;
        }

        void tellStory(int teller) {
            int listeners = bitsBeside(teller);
            for (int x = 0; x < people; x++) {
                if ((listeners >> x & 1) != 0) {
                    fear[x] = Math.max(fear[x] - 2, 0);
                } else if (x == teller && kind[x] != SINGER) {
                    fear[x] = Math.min(fear[x] + 1, MOST_FEAR);
                }
            }
        }

        void sing() {
            int less = 1 + singers();
            for (int x = 0; x < people; x++) {
                fear[x] = Math.max(fear[x] - less, 0);
            }
        }

        void save(int place) {
            int from = place * SAVED;
            if (from >= 0 && from <= saved.length - SAVED) {
                System.arraycopy(fear, 0, saved, from, MOST_PEOPLE);
                saved[from + 5] = oil;
                saved[from + 6] = minute;
                saved[from + 7] = last;
            }
        }

        void restore(int place) {
            int from = place * SAVED;
            if (from >= 0 && from <= saved.length - SAVED) {
                System.arraycopy(saved, from, fear, 0, MOST_PEOPLE);
                oil = saved[from + 5];
                minute = saved[from + 6];
                last = saved[from + 7];
            }
        }

        /** Whether FEARS and who has the lamp are as saved (OIL and the MINUTE may be others). */
        boolean isAsSaved(int place) {
            int from = place * SAVED;
            if (from < 0 || from > saved.length - SAVED || saved[from + 7] != last) {
                return false;
            }
            for (int x = 0; x < people; x++) {
                if (saved[from + x] != fear[x]) {
                    return false;
                }
            }
            return true;
        }
    }

    /** All handings of some MINUTES, by numbers, those left out that are OVER on the way. */
    private static final class Search {
        private final int[] path = new int[MOST_HANDED];
        private boolean forLength;
        private int goal;
        final int[] best = new int[MOST_HANDED];
        int bestLength;
        int leastFear;

        void findLongest(Aside aside) {
            forLength = true;
            goal = MOST_HANDED;
            bestLength = 0;
            start(aside);
        }

        /** bestLength is below 0, if there is none. */
        void findCalmest(Aside aside, int n) {
            forLength = false;
            goal = Math.min(n, MOST_HANDED);
            bestLength = -1;
            leastFear = MOST_FEAR + 1;
            start(aside);
        }

        private void start(Aside aside) {
            if (!aside.isOver()) {
                handFrom(aside, 0);
            }
        }

        private void handFrom(Aside aside, int depth) {
            weigh(aside, depth);
            if (depth >= goal || depth >= MOST_HANDED) {
                return;
            }
            aside.save(depth);
            for (int x = 0; x < aside.people && !isSettled(); x++) {
                path[depth] = x;
                aside.pass(x);
                if (!aside.isOver()) {
                    handFrom(aside, depth + 1);
                }
                aside.restore(depth);
            }
        }

        /** Nothing that comes later by numbers could be better. */
        private boolean isSettled() {
            return forLength ? bestLength == goal : bestLength == goal && leastFear == 0;
        }

        private void weigh(Aside aside, int depth) {
            int greatest = aside.greatestFear();
            boolean better = forLength ? depth > bestLength : depth == goal && greatest < leastFear;
            if (better) {
                bestLength = depth;
                leastFear = greatest;
                System.arraycopy(path, 0, best, 0, depth);
            }
        }
    }
}
