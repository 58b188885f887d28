/** What the tests share: answers held against what is due, and short ways to make an afternoon. */
abstract class Checks {
    static final int NONE = -1, BAD = -2, STATE = -3, FULL = -4;
    static final int NOTHING = -11, OUTSIDE = -12, UNLIKE = -13, BELOW = -14;
    static final int LEAST = Integer.MIN_VALUE, MOST = Integer.MAX_VALUE;

    private static int wrong = 0;
    private static int held = 0;

    static void due(String call, long got, long want) {
        held++;
        if (got != want) {
            wrong++;
            System.out.println(call + " answered " + got + ", due is " + want);
        }
    }

    /** Ends the test: exit code 1 if any answer was not the one that is due. */
    static void end() {
        System.out.println(held + " answers held, " + wrong + " wrong");
        if (wrong != 0) {
            System.exit(1);
        }
    }

    static void feed(SewsUpTheAfternoon x, String text) {
        for (int i = 0; i < text.length(); i++) {
            x.feed(text.charAt(i));
        }
    }

    static int read(SewsUpTheAfternoon x, String text) {
        feed(x, text);
        return x.text();
    }

    /** A new day whose rule is a text. */
    static SewsUpTheAfternoon by(String text) {
        SewsUpTheAfternoon x = new SewsUpTheAfternoon();
        due("text of " + text, read(x, text), 1);
        due("force(1)", x.force(1), 0);
        return x;
    }

    static void joys(SewsUpTheAfternoon x, int... joys) {
        for (int h = 0; h < joys.length; h++) {
            x.set(1, h, joys[h]);
        }
    }

    static void allJoys(SewsUpTheAfternoon x, int joy) {
        for (int h = 0; h < 16; h++) {
            x.set(1, h, joy);
        }
    }

    static void row(SewsUpTheAfternoon x, int sheet, int sort, int... items) {
        due("sheet", x.sheet(sheet, sort, items.length), 1);
        for (int i = 0; i < items.length; i++) {
            due("cell " + i, x.cell(sheet, i, items[i]), 1);
        }
    }

    /** A day of sixteen joys, 23 together. */
    static SewsUpTheAfternoon anAfternoon() {
        SewsUpTheAfternoon x = new SewsUpTheAfternoon();
        joys(x, 5, 10, -3, 8, -20, -15, 30, 2, 0, -40, 12, 7, -6, 25, -1, 9);
        return x;
    }
}
