/** The edges of what would be best (promises 11 to 14), a test for each sentence that names one. */
public final class BestBoundsTest extends Checks {
    private static final int SEAM = 0, SILK = 1, WOOL = 2, HAIR = 3, DARN = 4, PIN = 5;
    private static final int NO_WORTH = -100000, NO_DAYS = -1000000;

    public static void main(String[] args) {
        cutTakesKindsAndNumbers();
        cutOnlyIfMoreThanNow();
        cutOfLikeOnesTheFirst();
        cutFromTheFirstHourToTheLast();
        cutAlsoIfThereAreSix();
        cutIsOneMoreThanSix();
        cutOfAllGone();
        cutIsNotWorn();
        cutIsOfItsKindAndNumber();
        cutBesideTheBurst();
        unpickIsAskedWhat();
        unpickOnlyIfMoreThanNow();
        unpickOfLikeOnesTheFirst();
        unpickTheMost();
        unpickNoneThatIsBurst();
        unpickCountsWithout();
        threadOf0To40Days();
        threadOfASeam();
        threadOfLikeOnesTheLeast();
        threadOfEachKind();
        threadOfTheBurst();
        threadMayPassDay999();
        moveOfASeam();
        moveOfLikeOnesTheFirst();
        moveIsCutOffAt15();
        moveOfSixteenHours();
        moveToEachFirst();
        moveOfTheBurst();
        end();
    }

    /** All hours are glad by 10, but one. */
    private static SewsUpTheAfternoon tens(int hour, int joy) {
        SewsUpTheAfternoon x = new SewsUpTheAfternoon();
        allJoys(x, 10);
        x.set(1, hour, joy);
        return x;
    }

    private static void cut(String of, SewsUpTheAfternoon x, int kind, int ends, int worth) {
        due("cut " + of, x.cut(kind, 0, 0), ends);
        due("cut " + of + ", worth", x.cut(kind, 0, 1), worth);
    }

    private static void unpick(String of, SewsUpTheAfternoon x, int seam, int worth) {
        due("unpick " + of, x.unpick(0), seam);
        due("unpick " + of + ", worth", x.unpick(1), worth);
    }

    private static void thread(String of, SewsUpTheAfternoon x, int seam, int n, int kind, int worth) {
        due("thread " + of, x.thread(seam, n, 0), kind);
        due("thread " + of + ", worth", x.thread(seam, n, 1), worth);
    }

    private static void move(String of, SewsUpTheAfternoon x, int seam, int first, int worth) {
        due("move " + of, x.move(seam, 0), first);
        due("move " + of + ", worth", x.move(seam, 1), worth);
    }

    // ---- promise 11

    private static void cutTakesKindsAndNumbers() {
        SewsUpTheAfternoon x = tens(5, -50);
        int[] far = {LEAST, -1, 0, 5, 6, MOST};
        for (int kind : far) {
            boolean is = kind == 0 || kind == 5;
            due("cut of kind " + kind, x.cut(kind, 0, 0), is ? 505 : NO_WORTH);
        }
        int[] numbers = {LEAST, -1, 0, 9, 10, MOST};
        for (int number : numbers) {
            boolean is = number == 0 || number == 9;
            due("cut of number " + number, x.cut(SEAM, number, 0), is ? 505 : NO_WORTH);
        }
        int[] whats = {LEAST, -1, 2, MOST};
        for (int what : whats) {
            due("cut, what " + what, x.cut(SEAM, 0, what), NO_WORTH);
        }
    }

    private static void cutOnlyIfMoreThanNow() {
        cut("by 1 more", tens(5, -3), SEAM, 505, 148);
        cut("by as much", tens(5, -2), SEAM, NONE, 148);
        cut("by less", tens(5, -1), SEAM, NONE, 149);
        cut("of an empty day", new SewsUpTheAfternoon(), HAIR, NONE, 0);
        cut("of a glad day", tens(5, 10), HAIR, NONE, 160);
    }

    private static void cutOfLikeOnesTheFirst() {
        // a hair of 3 hours or less pulls 0: 304, 305, 404 and 405 are of like worth
        SewsUpTheAfternoon x = tens(4, -5);
        x.set(1, 3, 0);
        x.set(1, 5, 0);
        cut("the first FIRST", x, HAIR, 304, 130);
        x.set(1, 3, 10);
        cut("the first LAST", x, HAIR, 404, 140);
        x.set(1, 11, -5);
        cut("of two the first", x, HAIR, 404, 125);
    }

    private static void cutFromTheFirstHourToTheLast() {
        cut("of 0 alone", tens(0, -50), SEAM, 0, 149);
        cut("of 15 alone", tens(15, -50), SEAM, 1515, 149);
        SewsUpTheAfternoon x = new SewsUpTheAfternoon();
        allJoys(x, -1);
        cut("of all hours", x, SEAM, 15, 0);
        x.set(1, 15, 99);
        cut("of all but 15", x, HAIR, 14, 99 - 7);
        x.set(1, 15, -1);
        x.set(1, 0, 99);
        cut("of all but 0", x, HAIR, 115, 99 - 7);
        // longer ones pull less, but none is longer than to 15
        SewsUpTheAfternoon y = by("pulls 20-length;wears 1;stands 9;");
        allJoys(y, 10);
        y.set(1, 15, -50);
        cut("of 15 by less", y, SEAM, 1515, 150 - 19);
    }

    private static void cutAlsoIfThereAreSix() {
        SewsUpTheAfternoon x = tens(5, -50);
        for (int s = 0; s < 6; s++) {
            due("seam", x.seam(HAIR, 0, 1515), s);
        }
        cut("with six", x, SEAM, 505, 140 - 2);
        cut("with six again", x, HAIR, 505, 140);
        due("six yet", x.count(0), 6);
        due("no seventh", x.told(6, 5), -1000);
        due("full yet", x.seam(SEAM, 0, 505), FULL);
        due("as it was", x.hours(0), 90);
    }

    private static void cutIsOneMoreThanSix() {
        // six seams pull 9 each, seven don't pull at all
        SewsUpTheAfternoon x = by("pulls 9*(seams<7);wears 1;stands 9;");
        for (int s = 0; s < 6; s++) {
            due("seam", x.seam(SEAM, 0, 101), s);
        }
        due("pulled by six", x.hours(0), -2 * 6 * 9);
        cut("is the seventh", x, SEAM, 0, 0);
        due("pulled by six yet", x.hours(0), -2 * 6 * 9);
        // the sixth sews up what is bad: it is there beside the one that is thought of
        SewsUpTheAfternoon y = tens(9, -50);
        y.set(1, 5, -50);
        for (int s = 0; s < 6; s++) {
            due("seam", y.seam(HAIR, 0, s == 5 ? 909 : 1515), s);
        }
        due("with 9 sewn up", y.hours(0), 130 - 50);
        cut("beside the sixth", y, HAIR, 505, 130);
    }

    private static void cutOfAllGone() {
        SewsUpTheAfternoon x = tens(5, -50);
        x.seam(SEAM, 0, 15);
        cut("of all gone", x, SEAM, NONE, 0);
        SewsUpTheAfternoon y = new SewsUpTheAfternoon();
        y.set(1, 15, -7);
        y.seam(SEAM, 0, 14);
        // what is left is pulled by 15; any cut that takes it in will do
        cut("of the last that is left", y, SEAM, 15, 0);
    }

    private static void cutIsNotWorn() {
        SewsUpTheAfternoon x = by("pulls 9*(0<worn);wears 1;stands 99;");
        allJoys(x, 10);
        x.set(1, 5, -1);
        x.seam(SEAM, 0, 15);
        x.set(3, 0, 9);
        x.set(4, 0, 1);
        cut("not worn", x, SEAM, 505, 150);
    }

    private static void cutIsOfItsKindAndNumber() {
        int[] worths = {146, 148, 142, 150, 133, 148};
        for (int kind = 0; kind < 6; kind++) {
            SewsUpTheAfternoon x = by("pulls 2*length;wears 1;stands 99;");
            allJoys(x, 10);
            x.set(1, 7, -99);
            due("cut of kind " + kind, x.cut(kind, 0, 0), 707);
            due("cut of kind " + kind + ", worth", x.cut(kind, 5, 1), kind == DARN ? 132 : worths[kind]);
        }
        SewsUpTheAfternoon x = by("pulls number;wears 1;stands 99;");
        allJoys(x, 10);
        x.set(1, 7, -99);
        for (int number = 0; number < 10; number++) {
            due("cut of number " + number, x.cut(SEAM, number, 1), 150 - 2 * number);
        }
    }

    private static void cutBesideTheBurst() {
        SewsUpTheAfternoon x = tens(5, -50);
        x.seam(SEAM, 0, 505);
        x.set(4, 0, 1);
        cut("what the burst has left", x, SEAM, 505, 148);
        x.set(4, 0, 0);
        cut("what is gone", x, SEAM, NONE, 148);
        // a hair beside it moves the pull of 1 to an hour that is as glad
        cut("beside what is gone", x, HAIR, NONE, 148);
    }

    // ---- promise 12

    private static void unpickIsAskedWhat() {
        SewsUpTheAfternoon x = tens(5, 10);
        x.seam(SEAM, 0, 505);
        unpick("of one", x, 0, 160);
        int[] whats = {LEAST, -1, 2, MOST};
        for (int what : whats) {
            due("unpick, what " + what, x.unpick(what), NO_WORTH);
        }
        due("truly", x.hours(0), 148);
    }

    private static void unpickOnlyIfMoreThanNow() {
        SewsUpTheAfternoon x = tens(5, -1);
        x.seam(SEAM, 0, 505);
        unpick("by 1 more", x, 0, 149);
        x.set(1, 5, -2);
        unpick("by as much", x, NONE, 148);
        x.set(1, 5, -3);
        unpick("by less", x, NONE, 148);
        unpick("of none", new SewsUpTheAfternoon(), NONE, 0);
    }

    private static void unpickOfLikeOnesTheFirst() {
        SewsUpTheAfternoon x = tens(5, 10);
        for (int s = 0; s < 6; s++) {
            x.seam(HAIR, 0, 101 * (2 + 2 * s));
        }
        unpick("of six like ones", x, 0, 110);
        x.set(4, 0, 1);
        unpick("of five like ones", x, 1, 120);
    }

    private static void unpickTheMost() {
        SewsUpTheAfternoon x = tens(5, 10);
        for (int s = 0; s < 6; s++) {
            x.seam(HAIR, 0, 101 * (2 + 2 * s));
        }
        x.set(1, 12, 11);
        unpick("the last", x, 5, 111);
        x.set(1, 8, 12);
        unpick("one between", x, 3, 112);
    }

    private static void unpickNoneThatIsBurst() {
        SewsUpTheAfternoon x = tens(5, 10);
        x.seam(SEAM, 0, 505);
        x.seam(SEAM, 0, 909);
        x.set(4, 0, 1);
        unpick("the one that isn't burst", x, 1, 160);
        x.set(4, 1, 1);
        unpick("none that isn't burst", x, NONE, 160);
        due("both burst yet", x.count(1), 2);
    }

    private static void unpickCountsWithout() {
        SewsUpTheAfternoon x = by("pulls 10*(seams=2);wears 0;stands 9;");
        x.seam(SEAM, 0, 303);
        x.seam(SEAM, 0, 1515);
        // of one seam alone none pulls
        unpick("by one seam less", x, 0, 0);
    }

    // ---- promise 13

    private static void threadOf0To40Days() {
        SewsUpTheAfternoon x = tens(5, 10);
        x.seam(SEAM, 0, 203);
        thread("of 0 days", x, 0, 0, SEAM, 0);
        // in the first day none bursts, and a hair pulls 0
        thread("of a day", x, 0, 1, HAIR, 140);
        // it is worn 12 behind the second, and stands 10
        thread("of two days", x, 0, 2, HAIR, 300);
        thread("of 40 days", x, 0, 40, HAIR, 140 + 39 * 160);
        int[] none = {LEAST, -1, 41, MOST};
        for (int n : none) {
            due("thread of " + n + " days", x.thread(0, n, 0), NO_DAYS);
            due("thread of " + n + " days, worth", x.thread(0, n, 1), NO_DAYS);
        }
    }

    private static void threadOfASeam() {
        SewsUpTheAfternoon x = tens(5, 10);
        for (int s = 0; s < 6; s++) {
            due("thread of the next", x.thread(s, 1, 0), NO_DAYS);
            x.seam(SEAM, 0, 505);
            due("thread of " + s, x.thread(s, 1, 0), SILK);
        }
        int[] none = {LEAST, -1, 6, MOST};
        for (int s : none) {
            due("thread of seam " + s, x.thread(s, 1, 0), NO_DAYS);
        }
        int[] whats = {LEAST, -1, 2, MOST};
        for (int what : whats) {
            due("thread, what " + what, x.thread(0, 1, what), NO_DAYS);
        }
    }

    private static void threadOfLikeOnesTheLeast() {
        SewsUpTheAfternoon x = by("pulls 0;wears 0;stands 999;");
        x.seam(HAIR, 0, 505);
        // a seam, a silk and a hair pull 0
        thread("of three like ones", x, 0, 5, SEAM, 0);
        SewsUpTheAfternoon y = by("pulls 1;wears 0;stands 999;");
        y.seam(HAIR, 0, 505);
        thread("of silk and hair", y, 0, 5, SILK, 0);
    }

    private static void threadOfEachKind() {
        // of 4 hours a pin pulls 4, a silk and a hair 49
        SewsUpTheAfternoon x = by("pulls 99;wears 0;stands 999;");
        x.seam(SEAM, 0, 407);
        thread("the pin", x, 0, 1, PIN, -8);
        // what is sewn up is bad: the best is what lasts, and a darn stands twice as much
        SewsUpTheAfternoon y = by("pulls 0;wears 10;stands 30;");
        y.set(1, 7, -99);
        y.seam(PIN, 0, 707);
        thread("the darn", y, 0, 5, DARN, -20);
        thread("by days in which none bursts", y, 0, 1, SEAM, 0);
        // a wool stands 31: 3 days more than a seam's two; a darn would stand as long, but pulls 9 more
        y.set(2, 0, 9);
        thread("the wool", y, 0, 3, WOOL, -12);
        due("no other kind truly", y.told(0, 5), PIN);
    }

    private static void threadOfTheBurst() {
        SewsUpTheAfternoon x = tens(5, 10);
        x.seam(PIN, 0, 505);
        x.set(4, 0, 1);
        thread("of the burst", x, 0, 40, SEAM, 40 * 160);
        allJoys(x, -10);
        thread("of the burst, below 0", x, 0, 40, SEAM, -40 * 160);
    }

    private static void threadMayPassDay999() {
        SewsUpTheAfternoon x = by("pulls 1;wears 0;stands 999;");
        x.seam(SEAM, 0, 505);
        x.set(0, 0, 999);
        thread("from day 999", x, 0, 40, SILK, 0);
        due("day 999 yet", x.told(0, 0), 999);
    }

    // ---- promise 14

    private static void moveOfASeam() {
        SewsUpTheAfternoon x = tens(5, -50);
        for (int s = 0; s < 6; s++) {
            due("move of the next", x.move(s, 0), NO_WORTH);
            x.seam(HAIR, 0, 1515);
            due("move of " + s, x.move(s, 0), 5);
        }
        int[] none = {LEAST, -1, 6, MOST};
        for (int s : none) {
            due("move of seam " + s, x.move(s, 0), NO_WORTH);
            due("move of seam " + s + ", worth", x.move(s, 1), NO_WORTH);
        }
        int[] whats = {LEAST, -1, 2, MOST};
        for (int what : whats) {
            due("move, what " + what, x.move(0, what), NO_WORTH);
        }
        due("not truly", x.told(0, 6), 15);
    }

    private static void moveOfLikeOnesTheFirst() {
        SewsUpTheAfternoon x = new SewsUpTheAfternoon();
        x.seam(HAIR, 0, 708);
        move("of all like", x, 0, 0, 0);
        x.set(1, 4, -5);
        move("of 3 and 4", x, 0, 3, 0);
        x.set(1, 11, -5);
        move("of 3, 4, 10 and 11", x, 0, 3, -5);
        SewsUpTheAfternoon y = new SewsUpTheAfternoon();
        y.seam(SEAM, 0, 707);
        // at the rims it pulls once
        move("of 0 and 15", y, 0, 0, -1);
    }

    private static void moveIsCutOffAt15() {
        // of length 5 a hair pulls, cut off to 3 or less it doesn't
        SewsUpTheAfternoon x = by("pulls 20;wears 1;stands 9;");
        allJoys(x, 1);
        x.seam(HAIR, 0, 408);
        move("to the last alone", x, 0, 15, 15);
        x.set(1, 14, 0);
        x.set(1, 15, 0);
        x.set(1, 13, 0);
        move("to the last three", x, 0, 13, 13);
        // 12 .. 15 is of length 4: it pulls
        x.set(1, 12, -9);
        move("not to the last four", x, 0, 13, 12 - 9);
        x.set(1, 12, -50);
        move("to the last four", x, 0, 12, 12 - 10);
    }

    private static void moveOfSixteenHours() {
        SewsUpTheAfternoon x = tens(5, 10);
        x.seam(SEAM, 0, 15);
        move("of all", x, 0, 15, 149);
        allJoys(x, -10);
        move("of all that is bad", x, 0, 0, 0);
        x.set(1, 0, 50);
        // from 1 on it is of length 15
        move("of all but 0", x, 0, 1, 35);
    }

    private static void moveToEachFirst() {
        for (int first = 0; first < 16; first++) {
            SewsUpTheAfternoon x = tens(first, -50);
            x.seam(SEAM, 0, 303);
            move("to " + first, x, 0, first, first == 0 || first == 15 ? 149 : 148);
        }
        SewsUpTheAfternoon x = tens(3, -50);
        x.seam(SEAM, 0, 305);
        // 1, 2 and 3 take it in alike
        move("by two hours behind", x, 0, 1, 130 - 6);
        x.set(1, 4, -50);
        move("by an hour behind", x, 0, 2, 130 - 6);
        x.set(1, 5, -50);
        move("to where it is", x, 0, 3, 130 - 6);
    }

    private static void moveOfTheBurst() {
        SewsUpTheAfternoon x = tens(5, -50);
        x.seam(SEAM, 0, 909);
        x.set(4, 0, 1);
        move("of the burst", x, 0, 0, 100);
    }
}
