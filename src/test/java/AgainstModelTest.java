import java.util.ArrayList;
import java.util.Arrays;
import java.util.List;
import java.util.Random;

/** Random runs of calls, each answer held against a plain second writing of the document. */
public final class AgainstModelTest {
    private static int wrong = 0;

    public static void main(String[] args) {
        int calls = 0;
        for (int run = 0; run < 300; run++) {
            calls += oneRun(run);
        }
        System.out.println(calls + " calls held against the model, " + wrong + " wrong");
        if (wrong != 0) {
            System.exit(1);
        }
    }

    private static int oneRun(int run) {
        Random random = new Random(run);
        Calls make = new Calls(random);
        SewsUpTheAfternoon x = new SewsUpTheAfternoon();
        Model m = new Model();
        List<String> told = new ArrayList<>();
        int n = 0;
        List<int[]> first = make.opening();
        while (n < 512) {
            for (int[] call : n == 0 ? first : make.next(m)) {
                if (n == 512) {
                    break;
                }
                n++;
                long got = Calls.ask(x, call);
                long want = m.answer(call);
                told.add(Arrays.toString(call) + " " + got);
                if (got != want) {
                    wrong++;
                    System.out.println("run " + run + " call " + n + " " + Arrays.toString(call)
                        + " answered " + got + ", the model says " + want);
                    if (wrong < 3) {
                        told.forEach(System.out::println);
                    }
                    return n;
                }
            }
        }
        return n;
    }

    /** Makes calls and puts them to the program. A call is its promise's number and its arguments. */
    static final class Calls {
        private final Random random;

        Calls(Random random) {
            this.random = random;
        }

        static long ask(SewsUpTheAfternoon x, int[] c) {
            switch (c[0]) {
                case 2: return x.set(c[1], c[2], c[3]);
                case 3: return x.seam(c[1], c[2], c[3]);
                case 4: return x.told(c[1], c[2]);
                case 5: return x.feed(c[1]);
                case 6: return x.text();
                case 7: return x.force(c[1]);
                case 8: return x.hours(c[1]);
                case 9: return x.pass();
                case 10: return x.run(c[1], c[2]);
                case 11: return x.cut(c[1], c[2], c[3]);
                case 12: return x.unpick(c[1]);
                case 13: return x.thread(c[1], c[2], c[3]);
                case 14: return x.move(c[1], c[2]);
                case 15: return x.tells(c[1], c[2]);
                case 16: return x.film(c[1], c[2]);
                case 17: return x.drawn(c[1]);
                case 18: return x.chance(c[1], c[2], c[3]);
                case 19: return x.image();
                case 20: return x.back();
                case 21: return x.count(c[1]);
                case 22: return x.sheet(c[1], c[2], c[3]);
                case 23: return x.cell(c[1], c[2], c[3]);
                case 24: return x.copy(c[1], c[2], c[3], c[4], c[5]);
                case 25: return x.seams(c[1], c[2], c[3], c[4]);
                default: return x.taken(c[1], c[2]);
            }
        }

        /** A number of a range, now and then a little or far outside it. */
        private int of(int low, int high) {
            int r = random.nextInt(60);
            if (r == 0) {
                return low - 1;
            }
            if (r == 1) {
                return high + 1;
            }
            if (r == 2) {
                int[] far = {Integer.MIN_VALUE, Integer.MAX_VALUE, -1, 1 << 30, random.nextInt()};
                return far[random.nextInt(far.length)];
            }
            return low + random.nextInt(high - low + 1);
        }

        private int ends() {
            int first = random.nextInt(16);
            int last = random.nextInt(12) == 0 ? random.nextInt(20) : Math.min(15, first + random.nextInt(5));
            return random.nextInt(40) == 0 ? of(-100, 1700) : 100 * first + last;
        }

        private int seamOf(Model m) {
            return of(0, Math.max(0, m.seams.size() - 1));
        }

        /** A day with joys, seams and a text of its own, so that what comes then finds something to tell. */
        List<int[]> opening() {
            List<int[]> calls = new ArrayList<>();
            for (int h = 0; h < 16; h++) {
                calls.add(new int[] {2, 1, h, random.nextInt(61) - 30});
            }
            if (random.nextBoolean()) {
                feedAll(calls, sentence());
                calls.add(new int[] {6});
                calls.add(new int[] {7, 1});
            }
            for (int s = random.nextInt(6); s > 0; s--) {
                int at = random.nextInt(16);
                calls.add(new int[] {3, random.nextInt(6), random.nextInt(10), 100 * at + Math.min(15, at + random.nextInt(4))});
            }
            return calls;
        }

        List<int[]> next(Model m) {
            List<int[]> calls = new ArrayList<>();
            int r = random.nextInt(100);
            if (r < 4) {
                feedAll(calls, random.nextInt(3) == 0 ? noise() : sentence());
                calls.add(new int[] {21, 4});
                calls.add(new int[] {6});
                calls.add(new int[] {7, of(0, Math.max(0, m.texts.size()))});
            } else if (r < 8) {
                int sheet = of(0, 3);
                calls.add(new int[] {16, sheet, of(0, 12)});
                if (random.nextBoolean()) {
                    calls.add(new int[] {23, sheet, random.nextInt(12), random.nextInt(200) - 100});
                }
                calls.add(new int[] {15, sheet, random.nextInt(2)});
                for (int k = 1; k < 6; k++) {
                    calls.add(new int[] {15, sheet, 10 * k + of(0, 6)});
                }
            } else if (r < 12) {
                sheetOfSeams(calls);
            } else {
                calls.add(single(m, 2 + random.nextInt(25)));
            }
            return calls;
        }

        private int[] single(Model m, int promise) {
            switch (promise) {
                case 2: return oneSet(m);
                case 3: return new int[] {3, of(0, 5), of(0, 9), ends()};
                case 4: return random.nextBoolean() ? new int[] {4, seamOf(m), of(2, 9)} : new int[] {4, of(0, 15), of(0, 12)};
                case 5: return new int[] {5, of(0, 255)};
                case 6: return new int[] {random.nextInt(4) == 0 ? 6 : 9};
                case 7: return new int[] {7, of(0, Math.max(0, m.texts.size() - 1))};
                case 8: return new int[] {8, of(0, 4)};
                case 9: return new int[] {9};
                case 10: return new int[] {10, of(0, 40), random.nextBoolean() ? of(0, 2) : 10 + seamOf(m)};
                case 11: return new int[] {11, of(0, 5), of(0, 9), of(0, 1)};
                case 12: return new int[] {12, of(0, 1)};
                case 13: return new int[] {13, seamOf(m), of(0, 40), of(0, 1)};
                case 14: return new int[] {14, seamOf(m), of(0, 1)};
                case 15: return new int[] {15, of(0, 3), of(0, 60)};
                case 16: return new int[] {16, of(0, 3), of(0, 40)};
                case 17: return new int[] {17, random.nextInt()};
                case 18: return new int[] {18, random.nextInt(), of(1, 20), of(0, 1)};
                case 19: return new int[] {random.nextInt(3) == 0 ? 19 : 9};
                case 20: return new int[] {20};
                case 21: return new int[] {21, of(0, 5)};
                case 22: return new int[] {22, of(0, 3), of(-1, 2), of(0, 40)};
                case 23: return new int[] {23, of(0, 3), of(0, 12), random.nextBoolean() ? random.nextInt() : of(-20, 20)};
                case 24: return new int[] {24, of(0, 3), of(0, 6), of(0, 3), of(0, 6), of(0, 6)};
                case 25: return new int[] {25, of(0, 3), of(0, 2), of(0, 12), of(0, 6)};
                default: return new int[] {26, seamOf(m), of(0, 5)};
            }
        }

        private int[] oneSet(Model m) {
            switch (random.nextInt(6)) {
                case 0: return new int[] {2, 0, random.nextInt(), of(0, 999)};
                case 1: return new int[] {2, 2, seamOf(m), of(0, 9)};
                case 2: return new int[] {2, 3, seamOf(m), random.nextInt(4) == 0 ? of(0, 9999) : of(0, 40)};
                case 3: return new int[] {2, 4, seamOf(m), of(0, 1)};
                case 4: return new int[] {2, of(0, 4), of(0, 15), of(-99, 99)};
                default: return new int[] {2, 1, of(0, 15), of(-99, 99)};
            }
        }

        private void sheetOfSeams(List<int[]> calls) {
            int sheet = random.nextInt(4);
            int sort = random.nextInt(3);
            int n = random.nextInt(20);
            calls.add(new int[] {22, sheet, sort, n});
            for (int i = 0; i + 2 < n; i += 3) {
                calls.add(new int[] {23, sheet, i, of(0, 5)});
                calls.add(new int[] {23, sheet, i + 1, of(0, 9)});
                calls.add(new int[] {23, sheet, i + 2, ends()});
            }
            calls.add(new int[] {25, sheet, random.nextInt(8) == 0 ? of(0, 2) : sort, of(0, 6), of(0, 6)});
        }

        private static void feedAll(List<int[]> calls, String s) {
            for (int i = 0; i < s.length(); i++) {
                calls.add(new int[] {5, s.charAt(i)});
            }
        }

        private String noise() {
            String[] bits = {"pulls", "wears", "stands", "or", "and", "not", "length", "worn", "number", "joy", "day",
                "seams", "(", ")", ";", "+", "-", "*", "<", "=", " ", "\n", "7", "12345", "0042", "X", "nota", "\u00ff"};
            String s = sentence();
            for (int k = random.nextInt(3); k >= 0; k--) {
                int at = random.nextInt(s.length() + 1);
                int cut = Math.min(s.length(), at + random.nextInt(4));
                s = s.substring(0, at) + bits[random.nextInt(bits.length)] + s.substring(cut);
            }
            return random.nextInt(5) == 0 ? s.substring(0, random.nextInt(s.length() + 1)) : s;
        }

        private String sentence() {
            String s = "pulls " + words(3, 0) + ";wears " + words(3, 0) + ";stands " + words(3, 0) + ";";
            return random.nextInt(4) == 0 ? s + " \n" : s;
        }

        private String words(int deep, int level) {
            int r = random.nextInt(10);
            if (deep == 0 || r < 3) {
                String[] names = {"length", "worn", "number", "joy", "day", "seams"};
                return random.nextInt(3) == 0 ? "" + random.nextInt(random.nextBoolean() ? 20 : 9999) : names[random.nextInt(6)];
            }
            if (r == 3) {
                return (level == 0 ? "not " : "-") + words(deep - 1, level);
            }
            if (r == 4) {
                return "(" + words(deep - 1, 0) + ")";
            }
            String[] signs = {" or ", " and ", "<", "=", "+", "-", "*", "+", "*"};
            int sign = random.nextInt(level == 0 ? 9 : 5) + (level == 0 ? 0 : 4);
            int below = sign < 2 ? 0 : 1;
            return words(deep - 1, below) + signs[sign] + words(deep - 1, below);
        }
    }

    /** The document, written once more, without a thought of what it costs. */
    static final class Model {
        static final int[] PARENT = {-1, 0, 0, 1, 2, 0};
        static final long NO = -4611686018427387904L;

        static final class S {
            int kind, number, first, last, worn;
            boolean burst;

            S twin() {
                S s = new S();
                s.kind = kind;
                s.number = number;
                s.first = first;
                s.last = last;
                s.worn = worn;
                s.burst = burst;
                return s;
            }

            int length() {
                return last - first + 1;
            }
        }

        int[] joys = new int[16];
        int day = 0;
        List<S> seams = new ArrayList<>();
        int rule = 0;
        List<List<List<String>>> texts = new ArrayList<>();
        StringBuilder tape = new StringBuilder();
        Model kept = null;
        int[] sorts = {-1, -1, -1, -1};
        List<List<Integer>> rows = new ArrayList<>();

        Model() {
            texts.add(Words.parts("pulls length ; wears 1 + length ; stands 20 ;"));
            for (int i = 0; i < 4; i++) {
                rows.add(new ArrayList<>());
            }
        }

        Model twin() {
            Model t = new Model();
            t.joys = joys.clone();
            t.day = day;
            t.rule = rule;
            t.texts = texts;
            for (S s : seams) {
                t.seams.add(s.twin());
            }
            return t;
        }

        static int clamp(int v, int most) {
            return v < 0 ? 0 : v > most ? most : v;
        }

        int live() {
            int n = 0;
            for (S s : seams) {
                if (!s.burst) {
                    n++;
                }
            }
            return n;
        }

        int says(int part, S s, int joy, int most) {
            int[] facts = {s.length(), s.worn, s.number, joy, day, live()};
            return clamp(Words.value(texts.get(rule).get(part), facts), most);
        }

        int pulls(int kind, S s, int joy) {
            switch (kind) {
                case 0: return says(0, s, joy, 99);
                case 1: return clamp(pulls(0, s, joy) / 2, 99);
                case 2: return clamp(pulls(0, s, joy) + 2, 99);
                case 3: return s.length() <= 3 ? 0 : pulls(1, s, joy);
                case 4: return clamp(s.number + pulls(2, s, joy), 99);
                default: return s.length();
            }
        }

        int wears(int kind, S s) {
            switch (kind) {
                case 0: return says(1, s, 0, 99);
                case 1: return clamp(wears(0, s) * 2, 99);
                case 2: return wears(0, s);
                case 3: return clamp(s.number + wears(1, s), 99);
                case 4: return day % 2 == 0 ? wears(2, s) / 2 : wears(2, s);
                default: return 9;
            }
        }

        int stands(int kind, S s) {
            switch (kind) {
                case 0: return says(2, s, 0, 999);
                case 1: return stands(0, s);
                case 2: return clamp(stands(0, s) + s.length(), 999);
                case 3: return stands(1, s) / 2;
                case 4: return clamp(stands(2, s) * 2, 999);
                default: return 10 + s.number;
            }
        }

        boolean isGone(int hour) {
            for (S s : seams) {
                if (!s.burst && s.first <= hour && hour <= s.last) {
                    return true;
                }
            }
            return false;
        }

        /** How much is pulled at an hour; -1 where nothing pulls. */
        int pulled(int hour) {
            if (isGone(hour)) {
                return -1;
            }
            int sum = -1;
            for (S s : seams) {
                if (s.burst) {
                    continue;
                }
                boolean by = true;
                for (int h = Math.min(hour + 1, s.last + 1); h < Math.max(hour, s.first); h++) {
                    by &= isGone(h);
                }
                if (by) {
                    sum = Math.max(0, sum) + pulls(s.kind, s, joys[hour]);
                }
            }
            return sum;
        }

        int glad(int hour) {
            return isGone(hour) ? 0 : Math.max(-999, joys[hour] - Math.max(0, pulled(hour)));
        }

        int worth() {
            int sum = 0;
            for (int h = 0; h < 16; h++) {
                sum += glad(h);
            }
            return sum;
        }

        int aDay() {
            for (S s : seams) {
                if (!s.burst) {
                    s.worn = Math.min(9999, s.worn + wears(s.kind, s));
                }
            }
            int bits = 0;
            for (int i = 0; i < seams.size(); i++) {
                S s = seams.get(i);
                if (!s.burst && s.worn >= stands(s.kind, s)) {
                    s.burst = true;
                    bits += 1 << i;
                }
            }
            day++;
            return bits;
        }

        boolean has(int seam) {
            return 0 <= seam && seam < seams.size();
        }

        long answer(int[] c) {
            switch (c[0]) {
                case 2: return set(c[1], c[2], c[3]);
                case 3: return seam(c[1], c[2], c[3]);
                case 4: return told(c[1], c[2]);
                case 5: return feed(c[1]);
                case 6: return text();
                case 7: return force(c[1]);
                case 8: return hours(c[1]);
                case 9: return day == 999 ? -3 : aDay();
                case 10: return run(c[1], c[2]);
                case 11: return cut(c[1], c[2], c[3]);
                case 12: return unpick(c[1]);
                case 13: return thread(c[1], c[2], c[3]);
                case 14: return move(c[1], c[2]);
                case 15: return tells(c[1], c[2]);
                case 16: return film(c[1], c[2]);
                case 17: return drawn(c[1]).worth();
                case 18: return chance(c[1], c[2], c[3]);
                case 19: kept = twin(); return seams.size();
                case 20: return back();
                case 21: return count(c[1]);
                case 22: return sheet(c[1], c[2], c[3]);
                case 23: return cell(c[1], c[2], c[3]);
                case 24: return copy(c[1], c[2], c[3], c[4], c[5]);
                case 25: return seams(c[1], c[2], c[3], c[4]);
                default: return taken(c[1], c[2]);
            }
        }

        int set(int what, int of, int v) {
            int was = what < 0 || what > 4 ? -1000 : told(of, what);
            int[] low = {0, -99, 0, 0, 0};
            int[] high = {999, 99, 9, 9999, 1};
            if (was == -1000 || v < low[what] || v > high[what]) {
                return -1000;
            }
            switch (what) {
                case 0: day = v; break;
                case 1: joys[of] = v; break;
                case 2: seams.get(of).number = v; break;
                case 3: seams.get(of).worn = v; break;
                default: seams.get(of).burst = v == 1;
            }
            return was;
        }

        int seam(int kind, int number, int ends) {
            int first = ends / 100;
            int last = ends % 100;
            if (kind < 0 || kind > 5 || number < 0 || number > 9 || ends < 0 || first > 15 || last > 15 || last < first) {
                return -2;
            }
            if (seams.size() == 6) {
                return -4;
            }
            seams.add(made(kind, number, first, last));
            return seams.size() - 1;
        }

        static S made(int kind, int number, int first, int last) {
            S s = new S();
            s.kind = kind;
            s.number = number;
            s.first = first;
            s.last = last;
            return s;
        }

        int told(int of, int what) {
            if (what == 0) {
                return day;
            }
            if (what == 1 || what == 10 || what == 11 || what == 12) {
                if (of < 0 || of > 15) {
                    return -1000;
                }
                return what == 1 ? joys[of] : what == 10 ? glad(of) : what == 11 ? (isGone(of) ? 1 : 0) : Math.max(0, pulled(of));
            }
            if (what < 0 || what > 12 || !has(of)) {
                return -1000;
            }
            S s = seams.get(of);
            int[] all = {0, 0, s.number, s.worn, s.burst ? 1 : 0, s.kind, s.first, s.last, wears(s.kind, s), stands(s.kind, s)};
            return all[what];
        }

        int feed(int letter) {
            if (letter < 0 || letter > 255) {
                return -2;
            }
            if (tape.length() == 160) {
                return -4;
            }
            tape.append((char) letter);
            return tape.length();
        }

        int text() {
            if (texts.size() == 6) {
                return -4;
            }
            String s = tape.toString();
            tape.setLength(0);
            int fault = Words.fault(s);
            if (fault >= 0) {
                return -100 - fault;
            }
            texts.add(Words.parts(s));
            return texts.size() - 1;
        }

        int force(int text) {
            if (text < 0 || text >= texts.size()) {
                return -2;
            }
            int was = rule;
            rule = text;
            return was;
        }

        int hours(int what) {
            int bits = 0;
            int best = -1;
            int stretch = 0;
            for (int h = 0; h < 16; h++) {
                if (what == 1 && isGone(h) || what == 2 && pulled(h) >= 0) {
                    bits |= 1 << h;
                }
                if (pulled(h) >= 0 && (best < 0 || pulled(h) > pulled(best))) {
                    best = h;
                }
                for (int k = h; k < 16 && !isGone(k); k++) {
                    stretch = Math.max(stretch, k - h + 1);
                }
            }
            switch (what) {
                case 0: return worth();
                case 1: case 2: return bits;
                case 3: return stretch;
                case 4: return best;
                default: return -100000;
            }
        }

        int run(int n, int what) {
            if (n < 0 || n > 40 || what < 0 || what > 2 && what < 10 || what >= 10 && !has(what - 10)) {
                return -1000000;
            }
            Model t = twin();
            int all = 0;
            int when = -1;
            for (int i = 0; i < n; i++) {
                int bits = t.aDay();
                if (what >= 10 && (bits & 1 << what - 10) != 0) {
                    when = i;
                }
                all += t.worth();
            }
            return what == 0 ? t.worth() : what == 1 ? t.seams.size() - t.live() : what == 2 ? all : when;
        }

        int cut(int kind, int number, int what) {
            if (kind < 0 || kind > 5 || number < 0 || number > 9 || what != 0 && what != 1) {
                return -100000;
            }
            int best = -1;
            int most = worth();
            for (int ends = 0; ends < 1600; ends++) {
                if (ends % 100 < 16 && ends % 100 >= ends / 100) {
                    Model t = twin();
                    t.seams.add(made(kind, number, ends / 100, ends % 100));
                    if (t.worth() > most) {
                        most = t.worth();
                        best = ends;
                    }
                }
            }
            return what == 0 ? best : most;
        }

        int unpick(int what) {
            if (what != 0 && what != 1) {
                return -100000;
            }
            int best = -1;
            int most = worth();
            for (int s = 0; s < seams.size(); s++) {
                Model t = twin();
                if (!t.seams.remove(s).burst && t.worth() > most) {
                    most = t.worth();
                    best = s;
                }
            }
            return what == 0 ? best : most;
        }

        int thread(int seam, int n, int what) {
            if (!has(seam) || n < 0 || n > 40 || what != 0 && what != 1) {
                return -1000000;
            }
            int[] all = new int[6];
            int best = 0;
            for (int k = 0; k < 6; k++) {
                Model t = twin();
                t.seams.get(seam).kind = k;
                all[k] = t.run(n, 2);
                best = all[k] > all[best] ? k : best;
            }
            return what == 0 ? best : all[best];
        }

        void shift(int seam, int first) {
            S s = seams.get(seam);
            int length = s.length();
            s.first = first;
            s.last = first + length - 1 > 15 ? 15 : first + length - 1;
        }

        int move(int seam, int what) {
            if (!has(seam) || what != 0 && what != 1) {
                return -100000;
            }
            int[] all = new int[16];
            int best = 0;
            for (int f = 0; f < 16; f++) {
                Model t = twin();
                t.shift(seam, f);
                all[f] = t.worth();
                best = all[f] > all[best] ? f : best;
            }
            return what == 0 ? best : all[best];
        }

        int other(List<Integer> row) {
            Model t = twin();
            for (int i = 0; i < row.size(); i++) {
                if (t.worth() != row.get(i)) {
                    return i;
                }
                t.aDay();
            }
            return -1;
        }

        int tells(int sheet, int what) {
            if (sheet < 0 || sheet > 3 || what < 0 || what > 59 || what > 1 && what < 10 || what >= 10 && !has(what % 10)) {
                return -2;
            }
            if (sorts[sheet] < 0) {
                return -11;
            }
            List<Integer> row = rows.get(sheet);
            if (what == 0) {
                return other(row);
            }
            int[] most = {texts.size(), 6, 10, 100, 100, 16};
            List<Integer> fit = new ArrayList<>();
            for (int v = 0; v < most[what / 10]; v++) {
                Model t = twin();
                switch (what / 10) {
                    case 0: t.rule = v; break;
                    case 1: t.seams.get(what % 10).kind = v; break;
                    case 2: t.seams.get(what % 10).number = v; break;
                    case 5: t.shift(what % 10, v); break;
                    default: t.seams.get(what % 10).worn = v;
                }
                if (t.other(row) == -1) {
                    fit.add(v);
                }
            }
            if (what / 10 == 3) {
                return fit.size();
            }
            if (what / 10 == 4) {
                return fit.isEmpty() ? -1 : fit.get(0);
            }
            int bits = 0;
            for (int v : fit) {
                bits |= 1 << v;
            }
            return bits;
        }

        int film(int sheet, int n) {
            if (sheet < 0 || sheet > 3 || n < 0 || n > 40) {
                return -2;
            }
            sorts[sheet] = 2;
            List<Integer> row = new ArrayList<>();
            for (int i = 0; i < n; i++) {
                row.add(run(i, 0));
            }
            rows.set(sheet, row);
            return n;
        }

        Model drawn(int seed) {
            Model t = twin();
            int z = seed;
            for (int h = 0; h < 16; h++) {
                z = z * 1103515245 + 12345;
                t.joys[h] = (z >>> 9) % 41 - 20;
            }
            return t;
        }

        long chance(int seed, int m, int part) {
            if (m < 1 || m > 20 || part != 0 && part != 1) {
                return NO;
            }
            int above = 0;
            for (int i = 0; i < m; i++) {
                Model t = drawn(seed + i);
                int with = t.worth();
                t.seams.clear();
                above += with > t.worth() ? 1 : 0;
            }
            int d = above;
            for (int b = m; b != 0;) {
                int rest = d % b;
                d = b;
                b = rest;
            }
            return part == 0 ? above / d : m / d;
        }

        int back() {
            if (kept == null) {
                return -3;
            }
            joys = kept.joys.clone();
            day = kept.day;
            rule = kept.rule;
            seams.clear();
            for (S s : kept.seams) {
                seams.add(s.twin());
            }
            return seams.size();
        }

        int count(int what) {
            int left = 0;
            for (int h = 0; h < 16; h++) {
                left += isGone(h) ? 0 : 1;
            }
            int[] all = {seams.size(), seams.size() - live(), left, texts.size(), tape.length(), rule};
            return what < 0 || what > 5 ? -2 : all[what];
        }

        int sheet(int sheet, int sort, int n) {
            if (sheet < 0 || sheet > 3 || sort < -1 || sort > 2 || sort != -1 && n > 40) {
                return -2;
            }
            if (sort != -1 && n < 0) {
                return -14;
            }
            sorts[sheet] = sort;
            List<Integer> row = new ArrayList<>();
            for (int i = 0; sort != -1 && i < n; i++) {
                row.add(0);
            }
            rows.set(sheet, row);
            return 1;
        }

        int cell(int sheet, int i, int v) {
            if (sheet < 0 || sheet > 3) {
                return -2;
            }
            if (sorts[sheet] < 0) {
                return -11;
            }
            if (i < 0 || i >= rows.get(sheet).size()) {
                return -12;
            }
            int shift = sorts[sheet] == 0 ? 24 : sorts[sheet] == 1 ? 16 : 0;
            rows.get(sheet).set(i, v << shift >> shift);
            return 1;
        }

        int copy(int sheet, int i, int other, int j, int n) {
            if (sheet < 0 || sheet > 3 || other < 0 || other > 3) {
                return -2;
            }
            if (sorts[sheet] < 0 || sorts[other] < 0) {
                return -11;
            }
            if (sorts[sheet] != sorts[other]) {
                return -13;
            }
            if (i < 0 || j < 0 || n < 0 || (long) i + n > rows.get(sheet).size() || (long) j + n > rows.get(other).size()) {
                return -12;
            }
            List<Integer> were = new ArrayList<>(rows.get(sheet));
            for (int k = 0; k < n; k++) {
                rows.get(other).set(j + k, were.get(i + k));
            }
            return n;
        }

        int seams(int sheet, int sort, int from, int n) {
            if (sheet < 0 || sheet > 3 || sort < 0 || sort > 2 || n < 0 || n > 6) {
                return -2;
            }
            if (sorts[sheet] < 0) {
                return -11;
            }
            if (sorts[sheet] != sort) {
                return -13;
            }
            List<Integer> row = rows.get(sheet);
            int came = 0;
            for (int s = 0; s < n; s++) {
                int[] three = new int[3];
                for (int k = 0; k < 3; k++) {
                    long at = from + 3L * s + k;
                    if (at < 0 || at >= row.size()) {
                        return -12;
                    }
                    three[k] = row.get((int) at);
                }
                came += seam(three[0], three[1], three[2]) >= 0 ? 1 : 0;
            }
            return came;
        }

        int taken(int seam, int k) {
            if (k < 0 || k > 5) {
                return -2;
            }
            if (!has(seam)) {
                return -11;
            }
            int kind = seams.get(seam).kind;
            while (kind != -1 && kind != k) {
                kind = PARENT[kind];
            }
            return kind == k ? seams.get(seam).number : -13;
        }
    }

    /** Texts by other means than the program's: a machine of states for faults, cutting in two for values. */
    static final class Words {
        static final List<String> KEYS = List.of("pulls", "wears", "stands", "or", "and", "not");
        static final List<String> NAMES = List.of("length", "worn", "number", "joy", "day", "seams");

        static int tokenEnd(String s, int i) {
            char c = s.charAt(i);
            String run = c >= 'a' && c <= 'z' ? "abcdefghijklmnopqrstuvwxyz" : c >= '0' && c <= '9' ? "0123456789" : "";
            int end = i + 1;
            while (end < s.length() && !run.isEmpty() && run.indexOf(s.charAt(end)) >= 0) {
                end++;
            }
            return end;
        }

        static List<String> tokens(String s) {
            List<String> all = new ArrayList<>();
            for (int i = 0; i < s.length();) {
                int end = tokenEnd(s, i);
                if (s.charAt(i) != ' ' && s.charAt(i) != '\n') {
                    all.add(s.substring(i, end));
                }
                i = end;
            }
            return all;
        }

        static List<List<String>> parts(String s) {
            List<List<String>> parts = new ArrayList<>();
            List<String> part = null;
            for (String t : tokens(s)) {
                if (part == null) {
                    part = new ArrayList<>();
                } else if (t.equals(";")) {
                    parts.add(part);
                    part = null;
                } else {
                    part.add(t);
                }
            }
            return parts;
        }

        static boolean isOne(String t) {
            return NAMES.contains(t) || t.matches("[0-9]{1,4}");
        }

        /** The place of the fault; -1: none. What is open stands on a pile: ( with whether a < was, n, -. */
        static int fault(String s) {
            int part = 0;
            String state = "key";
            boolean mayNot = false;
            boolean compared = false;
            String pile = "";
            for (int i = 0; i < s.length(); i = tokenEnd(s, i)) {
                String t = s.substring(i, tokenEnd(s, i));
                if (t.equals(" ") || t.equals("\n")) {
                    continue;
                }
                if (state.equals("key")) {
                    if (part == 3 || !t.equals(KEYS.get(part))) {
                        return i;
                    }
                    state = "one";
                    mayNot = true;
                    compared = false;
                } else if (state.equals("one")) {
                    if (isOne(t)) {
                        pile = pile.replaceAll("-+$", "");
                        state = "behind";
                    } else if (t.equals("(") && pile.length() < 5) {
                        pile += compared ? "<" : "(";
                        compared = false;
                        mayNot = true;
                    } else if (t.equals("-") && pile.length() < 5) {
                        pile += "-";
                        mayNot = false;
                    } else if (t.equals("not") && mayNot && pile.length() < 5) {
                        pile += "n";
                    } else {
                        return i;
                    }
                } else if (t.equals("+") || t.equals("-") || t.equals("*") || (t.equals("<") || t.equals("=")) && !compared) {
                    compared |= t.equals("<") || t.equals("=");
                    state = "one";
                    mayNot = false;
                } else {
                    pile = pile.replaceAll("n+$", "");
                    if (t.equals("or") || t.equals("and")) {
                        state = "one";
                        mayNot = true;
                        compared = false;
                    } else if (t.equals(")") && !pile.isEmpty()) {
                        compared = pile.endsWith("<");
                        pile = pile.substring(0, pile.length() - 1).replaceAll("-+$", "");
                    } else if (t.equals(";") && pile.isEmpty()) {
                        part++;
                        state = "key";
                    } else {
                        return i;
                    }
                }
            }
            return state.equals("key") && part == 3 ? -1 : s.length();
        }

        static int value(List<String> e, int[] facts) {
            int cut = lastOpen(e, "or", "or");
            if (cut >= 0) {
                return value(e.subList(0, cut), facts) != 0 | value(e.subList(cut + 1, e.size()), facts) != 0 ? 1 : 0;
            }
            cut = lastOpen(e, "and", "and");
            if (cut >= 0) {
                return value(e.subList(0, cut), facts) != 0 & value(e.subList(cut + 1, e.size()), facts) != 0 ? 1 : 0;
            }
            if (e.get(0).equals("not")) {
                return value(e.subList(1, e.size()), facts) == 0 ? 1 : 0;
            }
            String[][] signs = {{"<", "="}, {"+", "-"}, {"*", "*"}};
            for (String[] two : signs) {
                cut = lastOpen(e, two[0], two[1]);
                if (cut >= 0) {
                    int a = value(e.subList(0, cut), facts);
                    int b = value(e.subList(cut + 1, e.size()), facts);
                    switch (e.get(cut)) {
                        case "<": return a < b ? 1 : 0;
                        case "=": return a == b ? 1 : 0;
                        case "+": return a + b;
                        case "-": return a - b;
                        default: return a * b;
                    }
                }
            }
            if (e.get(0).equals("-")) {
                return -value(e.subList(1, e.size()), facts);
            }
            if (e.get(0).equals("(")) {
                return value(e.subList(1, e.size() - 1), facts);
            }
            return NAMES.contains(e.get(0)) ? facts[NAMES.indexOf(e.get(0))] : Integer.parseInt(e.get(0));
        }

        /** The last of two signs outside of all brackets that stands between two values; -1. */
        static int lastOpen(List<String> e, String a, String b) {
            int deep = 0;
            for (int i = e.size() - 1; i > 0; i--) {
                String t = e.get(i);
                deep += t.equals(")") ? 1 : t.equals("(") ? -1 : 0;
                String ahead = e.get(i - 1);
                boolean between = ahead.equals(")") || isOne(ahead);
                if (deep == 0 && between && (t.equals(a) || t.equals(b))) {
                    return i;
                }
            }
            return -1;
        }
    }
}
