import java.lang.reflect.InvocationTargetException;
import java.lang.reflect.Method;
import java.util.ArrayList;
import java.util.Arrays;
import java.util.Comparator;
import java.util.List;
import java.util.Random;
import java.util.function.Supplier;

/** Each refused call: its answer, and that it changes nothing; so too each call that only asks. */
public final class RefusalsTest extends Checks {
    private static final int NO_FACT = -1000, NO_WORTH = -100000, NO_DAYS = -1000000;
    private static final long NO = -4611686018427387904L;
    private static final Method[] CALLS = Arrays.stream(SewsUpTheAfternoon.class.getMethods())
        .filter(m -> m.getDeclaringClass() == SewsUpTheAfternoon.class)
        .sorted(Comparator.comparing(Method::getName))
        .toArray(Method[]::new);

    public static void main(String[] args) {
        ofTheDayAndSeams();
        ofTexts();
        ofDays();
        ofWhatWouldBeBest();
        ofDaysThatWereTold();
        ofTheHost();
        whatIsOnlyAsked();
        noCallThrows();
        end();
    }

    // ---- days in which there is much to change

    private static void oneText(SewsUpTheAfternoon x, int number) {
        read(x, "pulls " + number + ";wears 2;stands 9;");
    }

    /** Four seams, one of them burst, two texts, a tape that lacks a byte, an image, three sheets; the last day. */
    private static SewsUpTheAfternoon day() {
        SewsUpTheAfternoon x = anAfternoon();
        x.seam(0, 1, 405);
        x.seam(4, 3, 909);
        x.set(3, 1, 5);
        x.image();
        for (int s = 0; s < 3; s++) {
            // 23 and 35 and 40 less 2 and 2 and 6 and 6: what the image is worth behind 0, 1 and 2 days
            x.sheet(s, s, 3);
            for (int i = 0; i < 3; i++) {
                x.cell(s, i, 82);
            }
        }
        oneText(x, 3);
        x.force(1);
        feed(x, "pulls 5;wears 1;stands 7");
        x.seam(3, 6, 1114);
        x.seam(5, 9, 0);
        x.set(0, 0, 999);
        x.set(1, 7, -9);
        x.set(2, 0, 2);
        x.set(3, 0, 4);
        x.set(4, 3, 1);
        return x;
    }

    private static SewsUpTheAfternoon dayOfSixSeams() {
        SewsUpTheAfternoon x = day();
        x.seam(1, 7, 202);
        x.seam(2, 8, 707);
        return x;
    }

    private static SewsUpTheAfternoon dayOfSixTexts() {
        SewsUpTheAfternoon x = new SewsUpTheAfternoon();
        x.seam(1, 2, 303);
        x.image();
        for (int t = 1; t < 6; t++) {
            oneText(x, 10 * t);
        }
        x.force(2);
        feed(x, "pulls");
        return x;
    }

    private static SewsUpTheAfternoon dayOfAFullTape() {
        SewsUpTheAfternoon x = new SewsUpTheAfternoon();
        x.seam(1, 2, 303);
        x.image();
        feed(x, "pulls 8;wears 1;stands 7;");
        for (int i = x.count(4); i < 160; i++) {
            x.feed(32);
        }
        return x;
    }

    private static SewsUpTheAfternoon dayOfNothing() {
        return new SewsUpTheAfternoon();
    }

    // ---- what can be seen of a day

    private static void see(SewsUpTheAfternoon x, List<Long> seen) {
        seen.add((long) x.told(0, 0));
        for (int h = 0; h < 16; h++) {
            seen.add((long) x.told(h, 1));
            seen.add((long) x.told(h, 10));
            seen.add((long) x.told(h, 12));
        }
        for (int s = 0; s < 6; s++) {
            for (int what = 2; what < 10; what++) {
                seen.add((long) x.told(s, what));
            }
        }
        for (int what = 0; what < 6; what++) {
            seen.add((long) x.count(what));
            seen.add((long) x.hours(what));
        }
    }

    /** The day, what the tape becomes by the byte that it lacks, the image, and the sheets by it. */
    private static List<Long> seen(SewsUpTheAfternoon x) {
        List<Long> seen = new ArrayList<>();
        see(x, seen);
        x.feed(';');
        seen.add((long) x.text());
        seen.add((long) x.force(x.count(3) - 1));
        for (int h = 0; h < 16; h++) {
            seen.add((long) x.told(h, 12));
        }
        seen.add((long) x.back());
        see(x, seen);
        for (int s = 0; s < 4; s++) {
            seen.add((long) x.tells(s, 0));
            for (int sort = 0; sort < 3; sort++) {
                seen.add((long) x.seams(s, sort, 0, 0));
            }
            seen.add((long) x.cell(s, 2, 82));
            seen.add((long) x.cell(s, 3, 82));
        }
        return seen;
    }

    private static long ask(SewsUpTheAfternoon x, String call, int... args) {
        for (Method m : CALLS) {
            if (m.getName().equals(call)) {
                try {
                    return ((Number) m.invoke(x, Arrays.stream(args).boxed().toArray())).longValue();
                } catch (IllegalAccessException | InvocationTargetException e) {
                    throw new IllegalStateException(call, e);
                }
            }
        }
        throw new IllegalStateException("no call " + call);
    }

    private static void changesNothing(Supplier<SewsUpTheAfternoon> day, String call, int... args) {
        SewsUpTheAfternoon x = day.get();
        ask(x, call, args);
        List<Long> was = seen(day.get());
        List<Long> is = seen(x);
        int other = -1;
        for (int i = was.size() - 1; i >= 0; i--) {
            other = was.get(i).equals(is.get(i)) ? other : i;
        }
        due("the first thing changed by " + call + Arrays.toString(args), other, -1);
    }

    private static void refused(Supplier<SewsUpTheAfternoon> day, long want, String call, int... args) {
        due(call + Arrays.toString(args), ask(day.get(), call, args), want);
        changesNothing(day, call, args);
    }

    private static void refused(long want, String call, int... args) {
        refused(RefusalsTest::day, want, call, args);
    }

    // ---- promises 2 to 4

    private static void ofTheDayAndSeams() {
        int[] whats = {LEAST, -1, 5, 10, MOST};
        for (int what : whats) {
            refused(NO_FACT, "set", what, 0, 1);
        }
        int[][] values = {{0, -1}, {0, 1000}, {1, -100}, {1, 100}, {2, -1}, {2, 10}, {3, -1}, {3, 10000}, {4, -1}, {4, 2},
            {0, LEAST}, {0, MOST}, {1, LEAST}, {1, MOST}, {2, MOST}, {3, MOST}, {4, LEAST}};
        for (int[] v : values) {
            refused(NO_FACT, "set", v[0], 0, v[1]);
        }
        int[] hours = {LEAST, -1, 16, MOST};
        for (int h : hours) {
            refused(NO_FACT, "set", 1, h, 7);
            refused(NO_FACT, "told", h, 10);
        }
        int[] seams = {LEAST, -1, 4, 6, MOST};
        for (int s : seams) {
            refused(NO_FACT, "set", 2, s, 7);
            refused(NO_FACT, "set", 3, s, 7);
            refused(NO_FACT, "set", 4, s, 1);
            refused(NO_FACT, "told", s, 9);
        }
        int[][] bad = {{-1, 0, 0}, {6, 0, 0}, {0, -1, 0}, {0, 10, 0}, {0, 0, -1}, {0, 0, 16}, {0, 0, 100}, {0, 0, 1600}};
        for (int[] b : bad) {
            refused(BAD, "seam", b);
            refused(RefusalsTest::dayOfSixSeams, BAD, "seam", b);
        }
        refused(RefusalsTest::dayOfSixSeams, FULL, "seam", 0, 0, 0);
        refused(NO_FACT, "told", 0, -1);
        refused(NO_FACT, "told", 0, 13);
    }

    // ---- promises 5 to 7

    private static void ofTexts() {
        int[] bytes = {LEAST, -1, 256, MOST};
        for (int b : bytes) {
            refused(BAD, "feed", b);
            refused(RefusalsTest::dayOfAFullTape, BAD, "feed", b);
        }
        refused(RefusalsTest::dayOfAFullTape, FULL, "feed", '?');
        refused(RefusalsTest::dayOfSixTexts, FULL, "text");
        int[] texts = {LEAST, -1, 2, 6, MOST};
        for (int t : texts) {
            refused(BAD, "force", t);
        }
        refused(RefusalsTest::dayOfSixTexts, BAD, "force", 6);
        refused(RefusalsTest::dayOfNothing, BAD, "force", 1);
    }

    // ---- promises 8 to 10

    private static void ofDays() {
        refused(NO_WORTH, "hours", -1);
        refused(NO_WORTH, "hours", 5);
        refused(STATE, "pass");
        refused(NO_DAYS, "run", -1, 0);
        refused(NO_DAYS, "run", 41, 0);
        int[] whats = {LEAST, -1, 3, 9, 14, MOST};
        for (int what : whats) {
            refused(NO_DAYS, "run", 1, what);
        }
        refused(RefusalsTest::dayOfNothing, NO_DAYS, "run", 1, 10);
    }

    // ---- promises 11 to 14

    private static void ofWhatWouldBeBest() {
        int[][] cuts = {{-1, 0, 0}, {6, 0, 0}, {0, -1, 0}, {0, 10, 0}, {0, 0, -1}, {0, 0, 2}};
        for (int[] c : cuts) {
            refused(NO_WORTH, "cut", c);
        }
        refused(NO_WORTH, "unpick", -1);
        refused(NO_WORTH, "unpick", 2);
        int[][] threads = {{-1, 1, 0}, {4, 1, 0}, {0, -1, 0}, {0, 41, 0}, {0, 1, -1}, {0, 1, 2}};
        for (int[] t : threads) {
            refused(NO_DAYS, "thread", t);
        }
        int[][] moves = {{-1, 0}, {4, 0}, {0, -1}, {0, 2}};
        for (int[] m : moves) {
            refused(NO_WORTH, "move", m);
        }
        refused(RefusalsTest::dayOfNothing, NO_DAYS, "thread", 0, 1, 0);
        refused(RefusalsTest::dayOfNothing, NO_WORTH, "move", 0, 0);
    }

    // ---- promises 15 to 21

    private static void ofDaysThatWereTold() {
        int[][] tells = {{-1, 0}, {4, 0}, {0, -1}, {0, 2}, {0, 9}, {0, 14}, {0, 60}, {3, 14}, {3, 2}};
        for (int[] t : tells) {
            refused(BAD, "tells", t);
        }
        refused(NOTHING, "tells", 3, 0);
        refused(NOTHING, "tells", 3, 53);
        int[][] films = {{-1, 1}, {4, 1}, {0, -1}, {0, 41}, {3, 41}, {2, LEAST}, {2, MOST}};
        for (int[] f : films) {
            refused(BAD, "film", f);
        }
        int[][] chances = {{1, 0, 0}, {1, 21, 0}, {1, 1, -1}, {1, 1, 2}};
        for (int[] c : chances) {
            refused(NO, "chance", c);
        }
        refused(RefusalsTest::dayOfNothing, STATE, "back");
        refused(BAD, "count", -1);
        refused(BAD, "count", 6);
    }

    // ---- promises 22 to 26

    private static void ofTheHost() {
        int[][] sheets = {{-1, 0, 1}, {4, 0, 1}, {0, -2, 1}, {0, 3, 1}, {0, 0, 41}, {3, 2, 41}, {4, -1, 1}};
        for (int[] s : sheets) {
            refused(BAD, "sheet", s);
        }
        refused(BELOW, "sheet", 0, 0, -1);
        refused(BELOW, "sheet", 3, 2, LEAST);
        refused(BAD, "cell", -1, 0, 5);
        refused(BAD, "cell", 4, 0, 5);
        refused(NOTHING, "cell", 3, 0, 5);
        refused(OUTSIDE, "cell", 0, -1, 5);
        refused(OUTSIDE, "cell", 0, 3, 5);
        refused(OUTSIDE, "cell", 2, MOST, 5);
        refused(BAD, "copy", -1, 0, 0, 0, 1);
        refused(BAD, "copy", 0, 0, 4, 0, 1);
        refused(NOTHING, "copy", 3, 0, 0, 0, 1);
        refused(NOTHING, "copy", 0, 0, 3, 0, 1);
        refused(UNLIKE, "copy", 0, 0, 1, 0, 1);
        refused(OUTSIDE, "copy", 0, 2, 0, 0, 2);
        refused(OUTSIDE, "copy", 0, 0, 0, 2, 2);
        refused(OUTSIDE, "copy", 0, 0, 0, 0, -1);
        refused(BAD, "seams", -1, 0, 0, 1);
        refused(BAD, "seams", 4, 0, 0, 1);
        refused(BAD, "seams", 0, -1, 0, 1);
        refused(BAD, "seams", 0, 3, 0, 1);
        refused(BAD, "seams", 0, 0, 0, -1);
        refused(BAD, "seams", 0, 0, 0, 7);
        refused(UNLIKE, "seams", 0, 1, 0, 1);
        refused(NOTHING, "seams", 3, 0, 0, 1);
        refused(OUTSIDE, "seams", 0, 0, 1, 1);
        refused(OUTSIDE, "seams", 0, 0, -1, 1);
        refused(BAD, "taken", 0, -1);
        refused(BAD, "taken", 0, 6);
        refused(NOTHING, "taken", -1, 0);
        refused(NOTHING, "taken", 4, 0);
        refused(UNLIKE, "taken", 0, 5);
    }

    // ---- what is asked, and what is thought

    private static void whatIsOnlyAsked() {
        due("the sheets are told by the image", sheetsOfTheImage(), 3 * NONE);
        int[][] asks = {{10, 40, 0}, {10, 40, 2}, {10, 40, 10}, {11, 0, 0, 0}, {11, 4, 9, 1}, {12, 0}, {12, 1}, {13, 1, 40, 0},
            {13, 3, 40, 1}, {14, 0, 0}, {14, 2, 1}, {15, 0, 0}, {15, 0, 1}, {15, 1, 10}, {15, 1, 21}, {15, 2, 32}, {15, 2, 43},
            {15, 0, 50}, {17, 5}, {18, 5, 20, 0}, {4, 0, 8}, {4, 15, 12}, {8, 0}, {8, 1}, {8, 2}, {8, 3}, {8, 4}, {21, 2},
            {26, 1, 0}, {25, 0, 0, 0, 0}, {25, 0, 0, 0, 1}, {24, 0, 0, 0, 1, 2}, {9}};
        String[] names = {"", "", "set", "seam", "told", "feed", "text", "force", "hours", "pass", "run", "cut", "unpick", "thread",
            "move", "tells", "film", "drawn", "chance", "image", "back", "count", "sheet", "cell", "copy", "seams", "taken"};
        for (int[] a : asks) {
            changesNothing(RefusalsTest::day, names[a[0]], Arrays.copyOfRange(a, 1, a.length));
            changesNothing(RefusalsTest::dayOfSixSeams, names[a[0]], Arrays.copyOfRange(a, 1, a.length));
        }
    }

    private static int sheetsOfTheImage() {
        SewsUpTheAfternoon x = day();
        x.back();
        return x.tells(0, 0) + x.tells(1, 0) + x.tells(2, 0);
    }

    // ---- any call, of any numbers

    private static void noCallThrows() {
        int[] numbers = {LEAST, -1, 0, 1, 5, 10, 15, 16, 39, 40, 41, 160, 256, 1515, MOST};
        List<Supplier<SewsUpTheAfternoon>> days = List.of(RefusalsTest::day, RefusalsTest::dayOfSixSeams,
            RefusalsTest::dayOfSixTexts, RefusalsTest::dayOfNothing);
        Random random = new Random(7);
        for (Supplier<SewsUpTheAfternoon> day : days) {
            for (int round = 0; round < 40; round++) {
                SewsUpTheAfternoon x = day.get();
                for (int n = 0; n < 250; n++) {
                    Method m = CALLS[random.nextInt(CALLS.length)];
                    int[] args = new int[m.getParameterCount()];
                    for (int i = 0; i < args.length; i++) {
                        args[i] = numbers[random.nextInt(numbers.length)];
                    }
                    // ask() throws, and so ends the test, if the call does
                    ask(x, m.getName(), args);
                }
            }
        }
    }
}
