import java.util.Arrays;

/** A day of sixteen hours, of which seams sew some up; what it says is in ../shared/DOC.md. */
public final class SewsUpTheAfternoon {
    public static final int NONE = -1, BAD = -2, STATE = -3, FULL = -4;
    public static final long NO = -4611686018427387904L;

    private static final int NOTHING = -11, OUTSIDE = -12, UNLIKE = -13, BELOW = -14;
    private static final int NO_FACT = -1000, NO_WORTH = -100000, NO_DAYS = -1000000;
    private static final int FAULTS = -100;

    private static final int HOURS = 16, SEAMS = 6, KINDS = 6, NUMBERS = 10, TEXTS = 6;
    private static final int BYTES = 160, SHEETS = 4, ITEMS = 40, DAYS = 40, SEEDS = 20;
    private static final int MOST_DATE = 999, MOST_WORN = 9999, MOST_JOY = 99;
    private static final int MOST_PULLS = 99, MOST_WEARS = 99, MOST_STANDS = 999, LEAST_GLAD = -999;
    private static final int WORNS_TOLD = 100;

    private static final int SEAM = 0, SILK = 1, WOOL = 2, HAIR = 3, DARN = 4, PIN = 5;
    private static final int[] UNDER = {NONE, SEAM, SEAM, SILK, WOOL, SEAM};

    private static final String THE_RULE = "pulls length ; wears 1 + length ; stands 20 ;";

    private final Text[] texts = new Text[TEXTS];
    private final Sheet[] sheets = new Sheet[SHEETS];
    private final Tape tape = new Tape();
    private final Day real;
    private final Day thought;
    private final Day kept;
    private int textCount;
    private boolean imaged;

    public SewsUpTheAfternoon() {
        for (int i = 0; i < TEXTS; i++) {
            texts[i] = new Text(i);
        }
        for (int i = 0; i < SHEETS; i++) {
            sheets[i] = new Sheet();
        }
        for (int i = 0; i < THE_RULE.length(); i++) {
            tape.add(THE_RULE.charAt(i));
        }
        tape.read(texts[0]);
        textCount = 1;
        real = new Day(texts[0]);
        thought = new Day(texts[0]);
        kept = new Day(texts[0]);
    }

    // ---- the day, seams

    public int set(int what, int of, int v) {
        if (what > 4 || !isFact(what, of) || !mayBecome(what, v)) {
            return NO_FACT;
        }
        int was = told(of, what);
        if (what == 0) {
            real.date = v;
        } else if (what == 1) {
            real.joys[of] = v;
        } else {
            real.sewn[of].alter(what, v);
        }
        return was;
    }

    public int seam(int kind, int number, int ends) {
        if (!isKind(kind) || !isNumber(number) || !areEnds(ends)) {
            return BAD;
        }
        if (real.many >= SEAMS) {
            return FULL;
        }
        real.add(kind, number, ends / 100, ends % 100);
        return real.many - 1;
    }

    public int told(int of, int what) {
        if (!isFact(what, of)) {
            return NO_FACT;
        }
        if (what == 0) {
            return real.date;
        }
        if (what == 1) {
            return real.joys[of];
        }
        if (what < 10) {
            return toldOfSeam(real.sewn[of], what);
        }
        real.weigh();
        if (what == 10) {
            return real.glad(of);
        }
        return what == 11 ? real.gone >> of & 1 : real.strain[of];
    }

    // ---- texts

    public int feed(int letter) {
        if (letter < 0 || letter > 255) {
            return BAD;
        }
        return tape.add(letter) ? tape.size : FULL;
    }

    public int text() {
        if (textCount >= TEXTS) {
            return FULL;
        }
        int fault = tape.read(texts[textCount]);
        if (fault != NONE) {
            return FAULTS - fault;
        }
        textCount++;
        return textCount - 1;
    }

    public int force(int text) {
        if (text < 0 || text >= textCount) {
            return BAD;
        }
        int was = real.rule.place;
        real.rule = texts[text];
        return was;
    }

    // ---- the day, days

    public int hours(int what) {
        switch (what) {
            case 0:
                return real.worth();
            case 1:
                return real.goneHours();
            case 2:
                real.weigh();
                return real.edges;
            case 3:
                return real.stretch();
            case 4:
                return real.tightest();
            default:
                return NO_WORTH;
        }
    }

    public int pass() {
        return real.date >= MOST_DATE ? STATE : real.wearOn();
    }

    public int run(int n, int what) {
        boolean plain = what >= 0 && what <= 2;
        int seam = what < 10 ? NONE : what - 10;
        if (!isDays(n) || !plain && !isSeam(seam)) {
            return NO_DAYS;
        }
        thought.become(real);
        int all = 0;
        int when = NONE;
        for (int i = 0; i < n; i++) {
            int bursts = thought.wearOn();
            if (seam >= 0 && (bursts >> seam & 1) == 1) {
                when = i;
            }
            all += thought.worth();
        }
        if (!plain) {
            return when;
        }
        if (what == 0) {
            return thought.worth();
        }
        return what == 1 ? thought.many - thought.whole() : all;
    }

    // ---- what would be best

    public int cut(int kind, int number, int what) {
        if (!isKind(kind) || !isNumber(number) || !isAsked(what)) {
            return NO_WORTH;
        }
        int most = real.worth();
        int best = NONE;
        thought.become(real);
        Seam seam = thought.add(kind, number, 0, 0);
        for (int first = 0; first < HOURS; first++) {
            for (int last = first; last < HOURS; last++) {
                seam.sewUp(first, last);
                int worth = thought.worth();
                if (worth > most) {
                    most = worth;
                    best = 100 * first + last;
                }
            }
        }
        return what == 0 ? best : most;
    }

    public int unpick(int what) {
        if (!isAsked(what)) {
            return NO_WORTH;
        }
        int most = real.worth();
        int best = NONE;
        thought.become(real);
        for (int s = 0; s < thought.many; s++) {
            Seam seam = thought.sewn[s];
            if (!seam.burst) {
                // to be burst and not to be there is the same for the worth of a day
                seam.burst = true;
                int worth = thought.worth();
                seam.burst = false;
                if (worth > most) {
                    most = worth;
                    best = s;
                }
            }
        }
        return what == 0 ? best : most;
    }

    public int thread(int seam, int n, int what) {
        if (!isSeam(seam) || !isDays(n) || !isAsked(what)) {
            return NO_DAYS;
        }
        int most = 0;
        int best = NONE;
        for (int kind = 0; kind < KINDS; kind++) {
            thought.become(real);
            thought.sewn[seam].kind = kind;
            int all = 0;
            for (int i = 0; i < n; i++) {
                thought.wearOn();
                all += thought.worth();
            }
            if (best == NONE || all > most) {
                most = all;
                best = kind;
            }
        }
        return what == 0 ? best : most;
    }

    public int move(int seam, int what) {
        if (!isSeam(seam) || !isAsked(what)) {
            return NO_WORTH;
        }
        int most = 0;
        int best = NONE;
        for (int first = 0; first < HOURS; first++) {
            thought.become(real);
            thought.sewn[seam].shift(first);
            int worth = thought.worth();
            if (best == NONE || worth > most) {
                most = worth;
                best = first;
            }
        }
        return what == 0 ? best : most;
    }

    // ---- days that were told

    public int tells(int sheet, int what) {
        if (!isSheet(sheet) || !isAsked(what) && !isAskedOfSeam(what)) {
            return BAD;
        }
        Sheet row = sheets[sheet];
        if (row.sort == Sheet.MISSING) {
            return NOTHING;
        }
        if (what == 0) {
            thought.become(real);
            return otherwise(row);
        }
        int aspect = what < 10 ? 0 : what / 10;
        int bits = 0;
        int fits = 0;
        int least = NONE;
        for (int v = 0; v < choices(aspect); v++) {
            thought.become(real);
            choose(aspect, what % 10, v);
            if (otherwise(row) == NONE) {
                bits |= v < 32 ? 1 << v : 0;
                fits++;
                least = least == NONE ? v : least;
            }
        }
        if (aspect == 3) {
            return fits;
        }
        return aspect == 4 ? least : bits;
    }

    public int film(int sheet, int n) {
        if (!isSheet(sheet) || !isDays(n)) {
            return BAD;
        }
        Sheet row = sheets[sheet];
        row.renew(Sheet.INTS, n);
        thought.become(real);
        for (int i = 0; i < n; i++) {
            row.put(i, thought.worth());
            thought.wearOn();
        }
        return n;
    }

    public int drawn(int seed) {
        thought.become(real);
        thought.draw(seed);
        return thought.worth();
    }

    public long chance(int seed, int m, int part) {
        if (m < 1 || m > SEEDS || !isAsked(part)) {
            return NO;
        }
        int above = 0;
        int below = m;
        thought.become(real);
        for (int i = 0; i < m; i++) {
            thought.draw(seed + i);
            if (thought.worth() > thought.allJoys()) {
                above++;
            }
        }
        for (int d = m; d > 1; d--) {
            if (above % d == 0 && below % d == 0) {
                above /= d;
                below /= d;
            }
        }
        return part == 0 ? above : below;
    }

    public int image() {
        kept.become(real);
        imaged = true;
        return kept.many;
    }

    public int back() {
        if (!imaged) {
            return STATE;
        }
        real.become(kept);
        return real.many;
    }

    public int count(int what) {
        switch (what) {
            case 0:
                return real.many;
            case 1:
                return real.many - real.whole();
            case 2:
                return HOURS - Integer.bitCount(real.goneHours());
            case 3:
                return textCount;
            case 4:
                return tape.size;
            case 5:
                return real.rule.place;
            default:
                return BAD;
        }
    }

    // ---- the host

    public int sheet(int sheet, int sort, int n) {
        if (!isSheet(sheet) || sort != Sheet.MISSING && !isSort(sort)) {
            return BAD;
        }
        if (sort != Sheet.MISSING && n > ITEMS) {
            return BAD;
        }
        if (sort != Sheet.MISSING && n < 0) {
            return BELOW;
        }
        sheets[sheet].renew(sort, sort == Sheet.MISSING ? 0 : n);
        return 1;
    }

    public int cell(int sheet, int i, int v) {
        if (!isSheet(sheet)) {
            return BAD;
        }
        Sheet row = sheets[sheet];
        if (row.sort == Sheet.MISSING) {
            return NOTHING;
        }
        if (!row.hasFrom(i, 1)) {
            return OUTSIDE;
        }
        row.put(i, v);
        return 1;
    }

    public int copy(int sheet, int i, int other, int j, int n) {
        if (!isSheet(sheet) || !isSheet(other)) {
            return BAD;
        }
        Sheet from = sheets[sheet];
        Sheet to = sheets[other];
        if (from.sort == Sheet.MISSING || to.sort == Sheet.MISSING) {
            return NOTHING;
        }
        if (from.sort != to.sort) {
            return UNLIKE;
        }
        if (!from.hasFrom(i, n) || !to.hasFrom(j, n)) {
            return OUTSIDE;
        }
        System.arraycopy(from.items, i, to.items, j, n);
        return n;
    }

    public int seams(int sheet, int sort, int from, int n) {
        if (!isSheet(sheet) || !isSort(sort) || n < 0 || n > SEAMS) {
            return BAD;
        }
        Sheet row = sheets[sheet];
        if (row.sort == Sheet.MISSING) {
            // what is not there is taken for any sort, so that -13 is none of its refusals
            return NOTHING;
        }
        if (row.sort != sort) {
            return UNLIKE;
        }
        int came = 0;
        int at = from;
        for (int s = 0; s < n; s++) {
            if (!row.hasFrom(at, 3)) {
                return OUTSIDE;
            }
            if (seam(row.items[at], row.items[at + 1], row.items[at + 2]) >= 0) {
                came++;
            }
            at += 3;
        }
        return came;
    }

    public int taken(int seam, int k) {
        if (!isKind(k)) {
            return BAD;
        }
        if (!isSeam(seam)) {
            return NOTHING;
        }
        Seam one = real.sewn[seam];
        return isUnder(one.kind, k) ? one.number : UNLIKE;
    }

    // ---- what the calls ask

    private static boolean isKind(int kind) {
        return kind >= 0 && kind < KINDS;
    }

    private static boolean isNumber(int number) {
        return number >= 0 && number < NUMBERS;
    }

    private static boolean areEnds(int ends) {
        return ends >= 0 && ends / 100 <= ends % 100 && ends % 100 < HOURS;
    }

    private static boolean isDays(int n) {
        return n >= 0 && n <= DAYS;
    }

    /** Of the calls that answer one of two: the best (0), the worth then (1). */
    private static boolean isAsked(int what) {
        return what == 0 || what == 1;
    }

    private static boolean isSheet(int sheet) {
        return sheet >= 0 && sheet < SHEETS;
    }

    private static boolean isSort(int sort) {
        return sort >= Sheet.BYTES_SORT && sort <= Sheet.INTS;
    }

    private static boolean isUnder(int kind, int k) {
        int one = kind;
        for (int i = 0; i < KINDS && isKind(one); i++) {
            if (one == k) {
                return true;
            }
            one = UNDER[one];
        }
        return false;
    }

    private static boolean mayBecome(int what, int v) {
        switch (what) {
            case 0:
                return v >= 0 && v <= MOST_DATE;
            case 1:
                return v >= -MOST_JOY && v <= MOST_JOY;
            case 2:
                return isNumber(v);
            case 3:
                return v >= 0 && v <= MOST_WORN;
            default:
                return v == 0 || v == 1;
        }
    }

    private boolean isSeam(int seam) {
        return seam >= 0 && seam < real.many;
    }

    private boolean isFact(int what, int of) {
        if (what == 0) {
            return true;
        }
        if (what == 1 || what >= 10 && what <= 12) {
            return of >= 0 && of < HOURS;
        }
        return what >= 2 && what <= 9 && isSeam(of);
    }

    private boolean isAskedOfSeam(int what) {
        return what >= 10 && what < 60 && isSeam(what % 10);
    }

    private int toldOfSeam(Seam seam, int what) {
        switch (what) {
            case 2:
                return seam.number;
            case 3:
                return seam.worn;
            case 4:
                return seam.burst ? 1 : 0;
            case 5:
                return seam.kind;
            case 6:
                return seam.first;
            case 7:
                return seam.last;
            case 8:
                return real.wears(seam, real.whole());
            default:
                return real.stands(seam, real.whole());
        }
    }

    /** The first number of a sheet that the thought day does not come to; the day is worn by it. */
    private int otherwise(Sheet row) {
        for (int i = 0; i < row.size; i++) {
            if (i > 0) {
                thought.wearOn();
            }
            if (thought.worth() != row.items[i]) {
                return i;
            }
        }
        return NONE;
    }

    /** How many there are of: 0 texts, 1 kinds, 2 numbers, 3 and 4 worn, 5 firsts. */
    private int choices(int aspect) {
        switch (aspect) {
            case 0:
                return textCount;
            case 1:
                return KINDS;
            case 2:
                return NUMBERS;
            case 5:
                return HOURS;
            default:
                return WORNS_TOLD;
        }
    }

    private void choose(int aspect, int seam, int v) {
        if (aspect == 0) {
            thought.rule = texts[v];
        } else if (aspect == 1) {
            thought.sewn[seam].kind = v;
        } else if (aspect == 2) {
            thought.sewn[seam].number = v;
        } else if (aspect == 5) {
            thought.sewn[seam].shift(v);
        } else {
            thought.sewn[seam].worn = v;
        }
    }

    private static int bounded(int v, int most) {
        return Math.max(0, Math.min(most, v));
    }

    /** One seam, and what its kind makes of what a text tells (v, which is bounded already). */
    private static final class Seam {
        private int kind;
        private int number;
        private int first;
        private int last;
        private int worn;
        private boolean burst;

        private void become(Seam other) {
            kind = other.kind;
            number = other.number;
            first = other.first;
            last = other.last;
            worn = other.worn;
            burst = other.burst;
        }

        private void alter(int what, int v) {
            if (what == 2) {
                number = v;
            } else if (what == 3) {
                worn = v;
            } else {
                burst = v == 1;
            }
        }

        private void sewUp(int from, int to) {
            first = from;
            last = to;
        }

        private void shift(int from) {
            sewUp(from, Math.min(HOURS - 1, from + last - first));
        }

        private int span() {
            return last - first + 1;
        }

        private int bits() {
            return (1 << last + 1) - (1 << first);
        }

        private int pullsBy(int v) {
            switch (kind) {
                case SILK:
                    return v / 2;
                case WOOL:
                    return bounded(v + 2, MOST_PULLS);
                case HAIR:
                    return span() <= 3 ? 0 : v / 2;
                case DARN:
                    return bounded(v + 2 + number, MOST_PULLS);
                case PIN:
                    return span();
                default:
                    return v;
            }
        }

        private int wearsBy(int v, int date) {
            switch (kind) {
                case SILK:
                    return bounded(2 * v, MOST_WEARS);
                case HAIR:
                    return bounded(2 * v + number, MOST_WEARS);
                case DARN:
                    return date % 2 == 0 ? v / 2 : v;
                case PIN:
                    return 9;
                default:
                    return v;
            }
        }

        private int standsBy(int v) {
            switch (kind) {
                case WOOL:
                    return bounded(v + span(), MOST_STANDS);
                case HAIR:
                    return v / 2;
                case DARN:
                    return bounded(2 * (v + span()), MOST_STANDS);
                case PIN:
                    return 10 + number;
                default:
                    return v;
            }
        }
    }

    /** A day as it is, as it is thought of, or as an image keeps it. */
    private static final class Day {
        private final int[] joys = new int[HOURS];
        private final Seam[] sewn = new Seam[SEAMS + 1];
        private final int[] strain = new int[HOURS];
        private final int[] facts = new int[Text.FACTS];
        private Text rule;
        private int date;
        private int many;
        private int gone;
        private int edges;

        private Day(Text first) {
            rule = first;
            for (int s = 0; s < sewn.length; s++) {
                sewn[s] = new Seam();
            }
        }

        private void become(Day other) {
            System.arraycopy(other.joys, 0, joys, 0, HOURS);
            for (int s = 0; s < other.many; s++) {
                sewn[s].become(other.sewn[s]);
            }
            rule = other.rule;
            date = other.date;
            many = other.many;
        }

        /** There is room for one more than six: the one that CUT thinks of. */
        private Seam add(int kind, int number, int first, int last) {
            Seam seam = sewn[Math.min(many, SEAMS)];
            seam.kind = kind;
            seam.number = number;
            seam.worn = 0;
            seam.burst = false;
            seam.sewUp(first, last);
            many = Math.min(many, SEAMS) + 1;
            return seam;
        }

        private int whole() {
            int n = 0;
            for (int s = 0; s < many; s++) {
                n += sewn[s].burst ? 0 : 1;
            }
            return n;
        }

        private int goneHours() {
            int bits = 0;
            for (int s = 0; s < many; s++) {
                bits |= sewn[s].burst ? 0 : sewn[s].bits();
            }
            return bits;
        }

        /** Sets what is gone, what is pulled at, and how much, for those who read it next. */
        private void weigh() {
            gone = goneHours();
            edges = 0;
            Arrays.fill(strain, 0);
            int whole = whole();
            for (int s = 0; s < many; s++) {
                if (!sewn[s].burst) {
                    pullAt(sewn[s], leftAhead(sewn[s].first), whole);
                    pullAt(sewn[s], leftBehind(sewn[s].last), whole);
                }
            }
        }

        private int leftAhead(int first) {
            for (int h = first - 1; h >= 0; h--) {
                if ((gone >> h & 1) == 0) {
                    return h;
                }
            }
            return NONE;
        }

        private int leftBehind(int last) {
            for (int h = last + 1; h < HOURS; h++) {
                if ((gone >> h & 1) == 0) {
                    return h;
                }
            }
            return NONE;
        }

        private void pullAt(Seam seam, int hour, int whole) {
            if (hour < 0 || hour >= HOURS) {
                return;
            }
            ask(seam, joys[hour], whole);
            strain[hour] += seam.pullsBy(bounded(rule.value(Text.PULLS, facts), MOST_PULLS));
            edges |= 1 << hour;
        }

        private int wears(Seam seam, int whole) {
            ask(seam, 0, whole);
            return seam.wearsBy(bounded(rule.value(Text.WEARS, facts), MOST_WEARS), date);
        }

        private int stands(Seam seam, int whole) {
            ask(seam, 0, whole);
            return seam.standsBy(bounded(rule.value(Text.STANDS, facts), MOST_STANDS));
        }

        /** Lays out what a text's names mean of a seam, in the order of the names. */
        private void ask(Seam seam, int joy, int whole) {
            facts[0] = seam.span();
            facts[1] = seam.worn;
            facts[2] = seam.number;
            facts[3] = joy;
            facts[4] = date;
            facts[5] = whole;
        }

        private int glad(int hour) {
            boolean left = (gone >> hour & 1) == 0;
            return left ? Math.max(LEAST_GLAD, joys[hour] - strain[hour]) : 0;
        }

        private int worth() {
            weigh();
            int all = 0;
            for (int h = 0; h < HOURS; h++) {
                all += glad(h);
            }
            return all;
        }

        private int allJoys() {
            int all = 0;
            for (int h = 0; h < HOURS; h++) {
                all += joys[h];
            }
            return all;
        }

        private int stretch() {
            int bits = goneHours();
            int most = 0;
            int now = 0;
            for (int h = 0; h < HOURS; h++) {
                now = (bits >> h & 1) == 0 ? now + 1 : 0;
                most = Math.max(most, now);
            }
            return most;
        }

        /** An hour that is pulled at by 0 is pulled at, too. */
        private int tightest() {
            weigh();
            int best = NONE;
            for (int h = 0; h < HOURS; h++) {
                boolean pulled = (edges >> h & 1) == 1;
                if (pulled && (best == NONE || strain[h] > strain[best])) {
                    best = h;
                }
            }
            return best;
        }

        /** A day passes: which seams burst in it. */
        private int wearOn() {
            int whole = whole();
            for (int s = 0; s < many; s++) {
                if (!sewn[s].burst) {
                    sewn[s].worn = Math.min(MOST_WORN, sewn[s].worn + wears(sewn[s], whole));
                }
            }
            int bursts = 0;
            for (int s = 0; s < many; s++) {
                if (!sewn[s].burst && sewn[s].worn >= stands(sewn[s], whole)) {
                    sewn[s].burst = true;
                    // the seams behind it are told by as many as are left then
                    whole--;
                    bursts |= 1 << s;
                }
            }
            date++;
            return bursts;
        }

        private void draw(int seed) {
            int z = seed;
            for (int h = 0; h < HOURS; h++) {
                z = z * 1103515245 + 12345;
                joys[h] = (z >>> 9) % 41 - 20;
            }
        }
    }

    /** What a text tells, as steps on a pile of numbers: a step from 0 on is a number itself. */
    private static final class Text {
        private static final int PULLS = 0, WEARS = 1, STANDS = 2, PARTS = 3;
        private static final int FACTS = 6;
        private static final int NEGATE = -11, DENY = -12;
        private static final int EITHER = -13, BOTH = -14, LESS = -15, SAME = -16;
        private static final int PLUS = -17, MINUS = -18, TIMES = -19;

        private final int place;
        private final int[] steps = new int[BYTES];
        private final int[] ends = new int[PARTS];
        private final int[] pile = new int[BYTES];
        private int size;

        private Text(int number) {
            place = number;
        }

        private static int stepOfFact(int name) {
            return -1 - name;
        }

        private void empty() {
            size = 0;
            Arrays.fill(ends, 0);
        }

        private void add(int step) {
            if (size < BYTES) {
                steps[size] = step;
                size++;
            }
        }

        private void endPart(int part) {
            if (part >= 0 && part < PARTS) {
                ends[part] = size;
            }
        }

        private int value(int part, int[] facts) {
            if (part < 0 || part >= PARTS) {
                return 0;
            }
            int top = 0;
            for (int i = part == 0 ? 0 : ends[part - 1]; i < ends[part]; i++) {
                int step = steps[i];
                int name = stepOfFact(step);
                if (step >= 0 && top < BYTES) {
                    pile[top] = step;
                    top++;
                } else if (name >= 0 && name < facts.length && top < BYTES) {
                    pile[top] = facts[name];
                    top++;
                } else if (step == NEGATE && top > 0) {
                    pile[top - 1] = -pile[top - 1];
                } else if (step == DENY && top > 0) {
                    pile[top - 1] = truth(pile[top - 1] == 0);
                } else if (top > 1) {
                    top--;
                    pile[top - 1] = joined(step, pile[top - 1], pile[top]);
                }
            }
            return top > 0 ? pile[top - 1] : 0;
        }

        private static int joined(int step, int a, int b) {
            switch (step) {
                case EITHER:
                    return truth(a != 0 || b != 0);
                case BOTH:
                    return truth(a != 0 && b != 0);
                case LESS:
                    return truth(a < b);
                case SAME:
                    return truth(a == b);
                case PLUS:
                    return a + b;
                case MINUS:
                    return a - b;
                default:
                    return a * b;
            }
        }

        private static int truth(boolean so) {
            return so ? 1 : 0;
        }
    }

    /** The tape, its tokens, and the reading of them into a text. */
    private static final class Tape {
        private static final int END = 0, FAULTY = 1, NUMBER = 2, NAME = 3;
        private static final int PULLS = 4, OR = 7, AND = 8, NOT = 9;
        private static final int NAMES = 6, WORDS = 12;
        private static final int MOST_DIGITS = 4, MOST_OPEN = 5;

        private final int[] bytes = new int[BYTES];
        private final int[] sorts = new int[BYTES + 1];
        private final int[] values = new int[BYTES + 1];
        private final int[] places = new int[BYTES + 1];
        private int size;
        private int tokens;
        private int at;
        private int fault;

        private boolean add(int letter) {
            if (size >= BYTES) {
                return false;
            }
            bytes[size] = letter;
            size++;
            return true;
        }

        /** The place of the fault, or NONE; the tape is empty then. */
        private int read(Text text) {
            tokenize();
            at = 0;
            fault = NONE;
            text.empty();
            for (int part = 0; part < Text.PARTS; part++) {
                expect(PULLS + part);
                either(text, 0);
                expect(';');
                text.endPart(part);
            }
            expect(END);
            size = 0;
            return fault;
        }

        private void tokenize() {
            tokens = 0;
            int next = 0;
            for (int i = 0; i < size; i++) {
                boolean blank = bytes[i] == 32 || bytes[i] == 10;
                if (i >= next && !blank) {
                    next = token(i);
                }
            }
            put(size, END, 0);
        }

        /** Where the token that begins at a place ends. */
        private int token(int i) {
            int end = i + 1;
            if (isLetter(bytes[i])) {
                end = runEnd(i, 'a', 'z');
                putWord(i, end);
            } else if (isDigit(bytes[i])) {
                end = runEnd(i, '0', '9');
                put(i, end - i > MOST_DIGITS ? FAULTY : NUMBER, valueOf(i, Math.min(end, i + MOST_DIGITS)));
            } else {
                put(i, isSign(bytes[i]) ? bytes[i] : FAULTY, 0);
            }
            if (tokens < BYTES) {
                tokens++;
            }
            return end;
        }

        private void put(int place, int sort, int value) {
            if (tokens > BYTES) {
                return;
            }
            places[tokens] = place;
            sorts[tokens] = sort;
            values[tokens] = value;
        }

        private void putWord(int from, int to) {
            int word = 0;
            while (word < WORDS && !spells(from, to, spelling(word))) {
                word++;
            }
            if (word < NAMES) {
                put(from, NAME, word);
            } else {
                put(from, word < WORDS ? PULLS + word - NAMES : FAULTY, 0);
            }
        }

        private boolean spells(int from, int to, String word) {
            if (to - from != word.length()) {
                return false;
            }
            for (int i = 0; i < word.length(); i++) {
                if (bytes[from + i] != word.charAt(i)) {
                    return false;
                }
            }
            return true;
        }

        /** The names in the order of a day's facts, then the keys in the order of their sorts. */
        private static String spelling(int word) {
            switch (word) {
                case 0:
                    return "length";
                case 1:
                    return "worn";
                case 2:
                    return "number";
                case 3:
                    return "joy";
                case 4:
                    return "day";
                case 5:
                    return "seams";
                case 6:
                    return "pulls";
                case 7:
                    return "wears";
                case 8:
                    return "stands";
                case 9:
                    return "or";
                case 10:
                    return "and";
                default:
                    return "not";
            }
        }

        private int runEnd(int from, int low, int high) {
            int end = from;
            while (end < size && bytes[end] >= low && bytes[end] <= high) {
                end++;
            }
            return end;
        }

        private int valueOf(int from, int to) {
            int value = 0;
            for (int i = from; i < to; i++) {
                value = 10 * value + bytes[i] - '0';
            }
            return value;
        }

        private static boolean isLetter(int letter) {
            return letter >= 'a' && letter <= 'z';
        }

        private static boolean isDigit(int letter) {
            return letter >= '0' && letter <= '9';
        }

        private static boolean isSign(int letter) {
            switch (letter) {
                case '(':
                case ')':
                case ';':
                case '+':
                case '-':
                case '*':
                case '<':
                case '=':
                    return true;
                default:
                    return false;
            }
        }

        private void go() {
            if (at < tokens) {
                at++;
            }
        }

        /** Only the first fault counts: behind it the text is as if it ended. */
        private void fail() {
            if (fault == NONE) {
                fault = places[at];
            }
            at = tokens;
        }

        private void expect(int sort) {
            if (sorts[at] == sort) {
                go();
            } else {
                fail();
            }
        }

        private void either(Text text, int open) {
            both(text, open);
            for (int i = 0; i < BYTES && sorts[at] == OR; i++) {
                go();
                both(text, open);
                text.add(Text.EITHER);
            }
        }

        private void both(Text text, int open) {
            denial(text, open);
            for (int i = 0; i < BYTES && sorts[at] == AND; i++) {
                go();
                denial(text, open);
                text.add(Text.BOTH);
            }
        }

        private void denial(Text text, int open) {
            if (sorts[at] != NOT) {
                compared(text, open);
            } else if (open >= MOST_OPEN) {
                fail();
            } else {
                go();
                denial(text, open + 1);
                text.add(Text.DENY);
            }
        }

        private void compared(Text text, int open) {
            sum(text, open);
            int sign = sorts[at];
            if (sign == '<' || sign == '=') {
                go();
                sum(text, open);
                text.add(sign == '<' ? Text.LESS : Text.SAME);
            }
        }

        private void sum(Text text, int open) {
            term(text, open);
            for (int i = 0; i < BYTES && (sorts[at] == '+' || sorts[at] == '-'); i++) {
                int sign = sorts[at];
                go();
                term(text, open);
                text.add(sign == '+' ? Text.PLUS : Text.MINUS);
            }
        }

        private void term(Text text, int open) {
            one(text, open);
            for (int i = 0; i < BYTES && sorts[at] == '*'; i++) {
                go();
                one(text, open);
                text.add(Text.TIMES);
            }
        }

        private void one(Text text, int open) {
            int sort = sorts[at];
            int value = values[at];
            if (sort == NUMBER) {
                go();
                text.add(value);
            } else if (sort == NAME) {
                go();
                text.add(Text.stepOfFact(value));
            } else if (sort == '-' && open < MOST_OPEN) {
                go();
                one(text, open + 1);
                text.add(Text.NEGATE);
            } else if (sort == '(' && open < MOST_OPEN) {
                go();
                either(text, open + 1);
                expect(')');
            } else {
                fail();
            }
        }
    }

    /** A row of numbers of a sort, or a missing one. */
    private static final class Sheet {
        private static final int MISSING = -1, BYTES_SORT = 0, SHORTS = 1, INTS = 2;

        private final int[] items = new int[ITEMS];
        private int sort = MISSING;
        private int size;

        private void renew(int newSort, int newSize) {
            Arrays.fill(items, 0);
            sort = newSort;
            size = newSize;
        }

        private boolean hasFrom(int i, int n) {
            return i >= 0 && n >= 0 && i <= size - n;
        }

        private void put(int i, int v) {
            if (sort == BYTES_SORT) {
                items[i] = (byte) v;
            } else {
                items[i] = sort == SHORTS ? (short) v : v;
            }
        }
    }
}
