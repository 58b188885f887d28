/** The edges of days that were told (promises 15 to 21), a test for each sentence that names one. */
public final class ToldBoundsTest extends Checks {
    private static final int SEAM = 0, SILK = 1, WOOL = 2, HAIR = 3, DARN = 4, PIN = 5;
    private static final long NO = -4611686018427387904L;

    public static void main(String[] args) {
        tellsOfSheets0To3();
        tellsWhat();
        badIsAheadOfMissing();
        aSheetOfNoNumbers();
        aSheetOf40Numbers();
        theFirstThatIsOtherwise();
        tellsOfBytesAndShorts();
        kindsAreBits0To5();
        numbersAreBits0To9();
        wornOf0To99();
        firstsAreBits0To15();
        textsAreBits();
        tellsMayPassDay999();
        filmOf0To40Numbers();
        filmOfAnySheet();
        filmMayPassDay999();
        drawnBySeeds();
        drawnByWhatIsSewnUp();
        chanceOf1To20Seeds();
        chanceInLowestTerms();
        chanceOfMoreAlone();
        chanceBySeedsThatWrap();
        backWithoutAnImage();
        imageOfNoSeam();
        imageOfSixSeams();
        imageKeepsAll();
        imageKeepsNoTextsNoTapeNoSheets();
        theLastImageCounts();
        countsAreWhat0To5();
        countsAtTheirMost();
        end();
    }

    // ---- promise 15

    private static void tellsOfSheets0To3() {
        SewsUpTheAfternoon x = new SewsUpTheAfternoon();
        int[] sheets = {LEAST, -1, 0, 3, 4, MOST};
        for (int s : sheets) {
            boolean is = s == 0 || s == 3;
            due("tells of missing " + s, x.tells(s, 0), is ? NOTHING : BAD);
            x.sheet(s, 2, 1);
            due("tells of " + s, x.tells(s, 0), is ? NONE : BAD);
        }
    }

    private static void tellsWhat() {
        SewsUpTheAfternoon x = new SewsUpTheAfternoon();
        x.sheet(0, 2, 0);
        for (int n = 0; n <= 6; n++) {
            for (int what = -2; what < 75; what++) {
                boolean is = what == 0 || what == 1 || what >= 10 && what < 60 && what % 10 < n;
                // a sheet of no numbers is told by all: of six seams as of one
                int[] all = {what == 0 ? NONE : 1, 63, 1023, 100, 0, 65535};
                if (n == 0 || n == 1 || n == 6) {
                    due("tells " + what + " with " + n + " seams", x.tells(0, what), is ? all[what / 10] : BAD);
                }
            }
            x.seam(SEAM, 0, 0);
        }
        int[] far = {LEAST, LEAST + 8, MOST, MOST - 7, 100, 110};
        for (int what : far) {
            due("tells " + what, x.tells(0, what), BAD);
        }
    }

    private static void badIsAheadOfMissing() {
        SewsUpTheAfternoon x = new SewsUpTheAfternoon();
        due("missing", x.tells(0, 1), NOTHING);
        due("what ahead of missing", x.tells(0, 2), BAD);
        due("no seam ahead of missing", x.tells(0, 10), BAD);
        x.seam(SEAM, 0, 0);
        due("a seam by missing", x.tells(0, 10), NOTHING);
        due("another seam ahead of missing", x.tells(0, 11), BAD);
        x.sheet(0, 1, 3);
        x.sheet(0, -1, 3);
        due("missing again", x.tells(0, 10), NOTHING);
    }

    private static void aSheetOfNoNumbers() {
        for (int sort = 0; sort < 3; sort++) {
            SewsUpTheAfternoon x = anAfternoon();
            x.seam(PIN, 9, 303);
            x.set(3, 0, 9999);
            due("sheet", x.sheet(1, sort, 0), 1);
            int[] whats = {0, 1, 10, 20, 30, 40, 50};
            int[] want = {NONE, 1, 63, 1023, 100, 0, 65535};
            for (int i = 0; i < whats.length; i++) {
                due("no numbers, what " + whats[i], x.tells(1, whats[i]), want[i]);
            }
        }
    }

    /** Hour 0 is sewn up, and there again in the day behind so many: 7 by then, 0 till then. */
    private static SewsUpTheAfternoon sevenBehind(int days) {
        SewsUpTheAfternoon x = by("pulls 0;wears 1;stands " + days + ";");
        x.set(1, 0, 7);
        x.seam(SEAM, 0, 0);
        return x;
    }

    private static void aSheetOf40Numbers() {
        SewsUpTheAfternoon x = sevenBehind(39);
        int[] all = new int[40];
        all[39] = 7;
        row(x, 0, 0, all);
        due("40 numbers", x.tells(0, 0), NONE);
        due("40 numbers, texts", x.tells(0, 1), 2);
        // a silk and a hair would burst ahead of it, a wool, a darn behind it, a pin ahead of it
        due("40 numbers, kinds", x.tells(0, 10), 1);
        due("40 numbers, worn", x.tells(0, 30), 1);
        due("40 numbers, least worn", x.tells(0, 40), 0);
        due("the last is otherwise", x.cell(0, 39, 8), 1);
        due("40 numbers, the last", x.tells(0, 0), 39);
        due("40 numbers, the last, texts", x.tells(0, 1), 0);
        due("the first is otherwise", x.cell(0, 0, 1), 1);
        due("40 numbers, the first", x.tells(0, 0), 0);
        SewsUpTheAfternoon y = sevenBehind(40);
        row(y, 0, 0, all);
        due("a day too early", y.tells(0, 0), 39);
        SewsUpTheAfternoon z = sevenBehind(38);
        row(z, 0, 0, all);
        due("a day too late", z.tells(0, 0), 38);
    }

    private static void theFirstThatIsOtherwise() {
        SewsUpTheAfternoon x = sevenBehind(2);
        row(x, 0, 2, 0, 0, 7, 7);
        due("as it will be", x.tells(0, 0), NONE);
        for (int i = 3; i >= 0; i--) {
            x.cell(0, i, -1);
            due("otherwise from " + i, x.tells(0, 0), i);
        }
        due("told in thought alone", x.told(0, 3) + x.told(0, 0) + x.count(1), 0);
    }

    private static void tellsOfBytesAndShorts() {
        SewsUpTheAfternoon x = new SewsUpTheAfternoon();
        x.set(1, 0, 99);
        x.set(1, 1, 28);
        row(x, 0, 0, 127);
        due("the most byte", x.tells(0, 0), NONE);
        x.set(1, 1, 29);
        x.cell(0, 0, 128);
        due("a byte more", x.tells(0, 0), 0);
        x.set(1, 0, -99);
        x.set(1, 1, -29);
        due("the least byte", x.tells(0, 0), NONE);
        x.cell(0, 0, -129);
        x.set(1, 1, -30);
        due("a byte less", x.tells(0, 0), 0);
        row(x, 0, 1, -129);
        due("by a short", x.tells(0, 0), NONE);
        x.cell(0, 0, -129 + 65536);
        due("by a short's lowest bits", x.tells(0, 0), NONE);
        x.cell(0, 0, -129 + 32768);
        due("by a short's other bits", x.tells(0, 0), 0);
        row(x, 0, 2, -129);
        due("by an int", x.tells(0, 0), NONE);
        x.cell(0, 0, -129 + 65536);
        due("an int has more bits", x.tells(0, 0), 0);
    }

    private static void kindsAreBits0To5() {
        // behind hour 0: 40, 20, 42, 0, 49 and 1 are pulled by the six kinds
        int[] pulls = {40, 20, 42, 0, 49, 1};
        for (int kind = 0; kind < 6; kind++) {
            SewsUpTheAfternoon x = by("pulls 40;wears 0;stands 999;");
            x.seam(SEAM, 0, 1515);
            x.set(4, 0, 1);
            x.seam(DARN, 7, 0);
            row(x, 0, 0, -pulls[kind]);
            due("kinds by " + pulls[kind], x.tells(0, 11), 1 << kind);
            due("kinds of the burst by " + pulls[kind], x.tells(0, 10), kind == DARN ? 63 : 0);
        }
        SewsUpTheAfternoon x = by("pulls 0;wears 0;stands 999;");
        x.seam(PIN, 0, 0);
        row(x, 0, 1, 0);
        due("kinds that pull 0", x.tells(0, 10), 1 << SEAM | 1 << SILK | 1 << HAIR);
        row(x, 0, 1, -2);
        due("kinds that pull 2", x.tells(0, 10), 1 << WOOL | 1 << DARN);
    }

    private static void numbersAreBits0To9() {
        SewsUpTheAfternoon x = by("pulls number;wears 0;stands 999;");
        x.seam(SEAM, 5, 0);
        for (int number = -1; number < 11; number++) {
            row(x, 0, 2, -number, -number);
            due("numbers by " + number, x.tells(0, 20), number < 0 || number > 9 ? 0 : 1 << number);
        }
        due("number as it was", x.told(0, 2), 5);
    }

    private static void wornOf0To99() {
        // behind a day it is 7 if it is worn as much as it stands less 1
        int[] stands = {1, 2, 50, 99, 100, 101, 999};
        int[] seven = {100, 99, 51, 2, 1, 0, 0};
        for (int i = 0; i < stands.length; i++) {
            SewsUpTheAfternoon x = sevenBehind(stands[i]);
            x.set(3, 0, 500);
            row(x, 0, 0, 0, 7);
            due("worn by stands " + stands[i], x.tells(0, 30), seven[i]);
            due("least worn by stands " + stands[i], x.tells(0, 40), seven[i] == 0 ? NONE : stands[i] - 1);
            row(x, 0, 0, 0, 0);
            due("worn less, by stands " + stands[i], x.tells(0, 30), 100 - seven[i]);
            due("least worn less, by stands " + stands[i], x.tells(0, 40), seven[i] == 100 ? NONE : 0);
            due("worn as it was", x.told(0, 3), 500);
        }
        SewsUpTheAfternoon x = sevenBehind(1);
        row(x, 0, 0, 1);
        due("worn by none", x.tells(0, 30), 0);
        due("least worn by none", x.tells(0, 40), NONE);
    }

    private static void firstsAreBits0To15() {
        for (int first = 0; first < 16; first++) {
            SewsUpTheAfternoon x = by("pulls 0;wears 0;stands 999;");
            for (int h = 0; h < 16; h++) {
                x.set(1, h, h + 1);
            }
            x.seam(SEAM, 0, 303);
            row(x, 0, 1, 136 - first - 1, 136 - first - 1);
            due("firsts by " + first, x.tells(0, 50), 1 << first);
            due("first as it was", x.told(0, 6), 3);
        }
        SewsUpTheAfternoon x = new SewsUpTheAfternoon();
        x.seam(PIN, 0, 15);
        // from f on it is of length 16 less f, and pulls as much at the hour ahead
        for (int first = 0; first < 16; first++) {
            row(x, 0, 0, first == 0 ? 0 : first - 16);
            due("firsts, cut off, by " + first, x.tells(0, 50), 1 << first);
        }
        x.set(4, 0, 1);
        row(x, 0, 0, 0);
        due("firsts of the burst", x.tells(0, 50), 65535);
    }

    private static void textsAreBits() {
        SewsUpTheAfternoon x = new SewsUpTheAfternoon();
        x.seam(SEAM, 0, 0);
        x.sheet(0, 2, 1);
        for (int t = 1; t < 6; t++) {
            due("text " + t, read(x, "pulls 1+" + t % 5 + ";wears 1;stands 9;"), t);
        }
        for (int pulls = 0; pulls < 7; pulls++) {
            x.cell(0, 0, -pulls);
            int bits = pulls == 0 || pulls == 6 ? 0 : pulls == 1 ? 1 | 1 << 5 : 1 << pulls - 1;
            due("texts by " + pulls, x.tells(0, 1), bits);
        }
        due("the rule as it was", x.count(5), 0);
        x.force(3);
        x.cell(0, 0, -1);
        due("texts by another rule", x.tells(0, 1), 1 | 1 << 5);
        due("otherwise by that rule", x.tells(0, 0), 0);
    }

    private static void tellsMayPassDay999() {
        SewsUpTheAfternoon x = by("pulls 1+(999<day);wears 0;stands 999;");
        x.seam(SEAM, 0, 0);
        x.set(0, 0, 999);
        row(x, 0, 0, -1, -2, -2);
        due("tells from 999", x.tells(0, 0), NONE);
        due("texts from 999", x.tells(0, 1), 2);
        due("day 999 yet", x.told(0, 0), 999);
    }

    // ---- promise 16

    private static void filmOf0To40Numbers() {
        SewsUpTheAfternoon x = sevenBehind(39);
        int[] none = {LEAST, -1, 41, MOST};
        for (int n : none) {
            due("film of " + n, x.film(0, n), BAD);
            due("still missing", x.tells(0, 0), NOTHING);
        }
        due("film of 0", x.film(0, 0), 0);
        due("it has no number", x.cell(0, 0, 0), OUTSIDE);
        due("film of 1", x.film(0, 1), 1);
        due("it has one number", x.cell(0, 1, 0), OUTSIDE);
        due("the first is behind 0 days", x.tells(0, 0), NONE);
        due("film of 40", x.film(0, 40), 40);
        due("all are told", x.tells(0, 0), NONE);
        row(x, 1, 2, 0);
        due("the last", x.copy(0, 39, 1, 0, 1), 1);
        due("the last is another", x.tells(1, 0), 0);
        x.set(4, 0, 1);
        due("the last is 7", x.tells(1, 0), NONE);
        due("the one ahead", x.copy(0, 38, 1, 0, 1), 1);
        due("the one ahead is no 7", x.tells(1, 0), 0);
    }

    private static void filmOfAnySheet() {
        SewsUpTheAfternoon x = anAfternoon();
        int[] sheets = {LEAST, -1, 4, MOST};
        for (int s : sheets) {
            due("film by sheet " + s, x.film(s, 1), BAD);
        }
        x.sheet(1, 0, 40);
        x.sheet(2, 1, 1);
        x.sheet(3, 2, 2);
        for (int s = 0; s < 4; s++) {
            due("film by sheet " + s, x.film(s, 3), 3);
            due("it is of three", x.cell(s, 3, 0), OUTSIDE);
            due("it is of ints", x.copy(s, 0, 0, 0, 3), 3);
            due("it is told", x.tells(s, 0), NONE);
        }
        allJoys(x, 99);
        due("film of the most", x.film(2, 1), 1);
        due("no byte, no short is too small", x.tells(2, 0), NONE);
        due("no day truly", x.told(0, 0), 0);
    }

    private static void filmMayPassDay999() {
        SewsUpTheAfternoon x = by("pulls 1+(999<day);wears 0;stands 999;");
        x.seam(SEAM, 0, 0);
        x.set(0, 0, 999);
        due("film from 999", x.film(0, 3), 3);
        row(x, 1, 2, -1, -2, -2);
        x.set(0, 0, 0);
        due("film from 999 is told", x.tells(0, 0), 1);
        x.set(0, 0, 999);
        due("film is as the row", x.tells(0, 0) + x.tells(1, 0), 2 * NONE);
    }

    // ---- promises 17 and 18

    private static void drawnBySeeds() {
        SewsUpTheAfternoon x = new SewsUpTheAfternoon();
        int[] seeds = {0, 1, -1, MOST, LEAST, 12345};
        int[] worth = {-3, 98, 20, -21, -3, -20};
        for (int i = 0; i < seeds.length; i++) {
            due("drawn by " + seeds[i], x.drawn(seeds[i]), worth[i]);
        }
        due("joys as they were", x.hours(0), 0);
    }

    private static void drawnByWhatIsSewnUp() {
        // by 0: 4, -3, 5, 6, -3, 9, 17, -18, 0, -18, 19, -3, -6, -13, -10, 11
        SewsUpTheAfternoon x = new SewsUpTheAfternoon();
        allJoys(x, 99);
        x.seam(SEAM, 0, 0);
        due("without the first", x.drawn(0), -3 - 4 - 1);
        x.set(4, 0, 1);
        x.seam(SEAM, 0, 1515);
        due("without the last", x.drawn(0), -3 - 11 - 1);
        x.set(4, 1, 1);
        due("by the burst", x.drawn(0), -3);
        x.seam(SEAM, 0, 15);
        due("by all gone", x.drawn(0), 0);
        SewsUpTheAfternoon y = by("pulls 50+joy;wears 0;stands 9;");
        y.seam(SEAM, 0, 707);
        due("pulled by drawn joys", y.drawn(0), -3 + 18 - 67 - 50);
    }

    private static void chanceOf1To20Seeds() {
        SewsUpTheAfternoon x = new SewsUpTheAfternoon();
        int[] none = {LEAST, -1, 0, 21, MOST};
        for (int m : none) {
            due("chance in " + m, x.chance(0, m, 0), NO);
            due("chance in " + m + ", below", x.chance(0, m, 1), NO);
        }
        int[] parts = {LEAST, -1, 2, MOST};
        for (int part : parts) {
            due("chance, part " + part, x.chance(0, 1, part), NO);
        }
        // all gone it is 0: more than -3, than -20, than -21
        x.seam(SEAM, 0, 15);
        int[] seeds = {0, 12345, MOST, LEAST, 1, -1};
        for (int i = 0; i < seeds.length; i++) {
            due("chance in one, of " + seeds[i], x.chance(seeds[i], 1, 0), i < 4 ? 1 : 0);
            due("chance in one, of " + seeds[i] + ", below", x.chance(seeds[i], 1, 1), 1);
        }
        due("chance in 20 is not refused", x.chance(0, 20, 0) == NO ? 1 : 0, 0);
    }

    private static void chanceInLowestTerms() {
        SewsUpTheAfternoon x = new SewsUpTheAfternoon();
        SewsUpTheAfternoon bare = new SewsUpTheAfternoon();
        x.seam(SEAM, 0, 15);
        int halves = 0;
        for (int seed = 0; seed < 15; seed++) {
            int below = 0;
            for (int m = 1; m <= 20; m++) {
                below += bare.drawn(seed + m - 1) < 0 ? 1 : 0;
                int d = common(below, m);
                halves += d > 1 ? 1 : 0;
                if (m == 6 || m == 12 || m == 16 || m == 20) {
                    due("chance of " + seed + " in " + m, x.chance(seed, m, 0), below / d);
                    due("chance of " + seed + " in " + m + ", below", x.chance(seed, m, 1), m / d);
                }
            }
        }
        due("some were to be made lower", halves > 20 ? 1 : 0, 1);
        // by no seam it is never more: nothing of so many is 0 of 1
        due("nothing of 20", bare.chance(0, 20, 0), 0);
        due("nothing of 20, below", bare.chance(0, 20, 1), 1);
        // what pulls nothing and hides nothing bad: all of so many is 1 of 1
        SewsUpTheAfternoon y = by("pulls 0;wears 0;stands 9;");
        y.seam(SEAM, 0, 1111);
        // by -1, 0: 17, -3 in hour 11
        due("one of two", y.chance(-1, 2, 0), 1);
        due("one of two, below", y.chance(-1, 2, 1), 2);
        due("all of one", y.chance(0, 1, 0), 1);
        due("all of one, below", y.chance(0, 1, 1), 1);
    }

    private static int common(int a, int b) {
        return a == 0 ? b : common(b % a, a);
    }

    private static void chanceOfMoreAlone() {
        SewsUpTheAfternoon x = by("pulls 0;wears 0;stands 9;");
        x.seam(SEAM, 0, 808);
        // by 0 hour 8 is drawn 0: as much is not more
        due("as much is not more", x.chance(0, 1, 0), 0);
        x.seam(SEAM, 0, 1111);
        due("3 more is more", x.chance(0, 1, 0), 1);
        x.set(4, 1, 1);
        due("the burst is none", x.chance(0, 1, 0), 0);
        // by 1 hour 8 is drawn -1, hour 4 is drawn 1
        x.set(4, 1, 1);
        due("1 more is more", x.chance(1, 1, 0), 1);
        x.set(4, 0, 1);
        x.seam(SEAM, 0, 404);
        due("1 less is not more", x.chance(1, 1, 0), 0);
    }

    private static void chanceBySeedsThatWrap() {
        SewsUpTheAfternoon x = by("pulls 0;wears 0;stands 9;");
        x.seam(SEAM, 0, 0);
        // hour 0 is drawn -8 by the most int, 8 by the least, -4 by -1, 4 by 0
        due("the most int and the least", x.chance(MOST, 2, 0), 1);
        due("the most int and the least, below", x.chance(MOST, 2, 1), 2);
        due("the most int alone", x.chance(MOST, 1, 1), 1);
        due("-1 and 0", x.chance(-1, 2, 0), 1);
        due("-1 and 0, below", x.chance(-1, 2, 1), 2);
        due("0 alone", x.chance(0, 1, 0), 0);
    }

    // ---- promises 19 and 20

    private static void backWithoutAnImage() {
        SewsUpTheAfternoon x = anAfternoon();
        x.seam(SEAM, 0, 0);
        due("back", x.back(), STATE);
        due("worth as it was", x.hours(0), 23 - 5 - 1);
        due("image", x.image(), 1);
        due("back with one", x.back(), 1);
        due("back again", x.back(), 1);
    }

    private static void imageOfNoSeam() {
        SewsUpTheAfternoon x = new SewsUpTheAfternoon();
        due("image", x.image(), 0);
        for (int s = 0; s < 6; s++) {
            x.seam(s, 0, 0);
        }
        due("back", x.back(), 0);
        due("seams", x.count(0), 0);
        due("no seam", x.told(0, 5), -1000);
        due("no hour is gone", x.hours(1), 0);
        due("no seam bursts", x.run(1, 10), -1000000);
        due("a seam comes as the first", x.seam(DARN, 1, 303), 0);
    }

    private static void imageOfSixSeams() {
        SewsUpTheAfternoon x = new SewsUpTheAfternoon();
        for (int s = 0; s < 6; s++) {
            x.seam(s, s + 2, 100 * s + 8 + s);
            x.set(3, s, 10 * s);
        }
        x.set(4, 3, 1);
        due("image", x.image(), 6);
        for (int s = 0; s < 6; s++) {
            x.set(2, s, 0);
            x.set(3, s, 9999);
            x.set(4, s, 1);
        }
        x.pass();
        due("back", x.back(), 6);
        for (int s = 0; s < 6; s++) {
            int[] facts = {s + 2, 10 * s, s == 3 ? 1 : 0, s, s, 8 + s};
            for (int what = 2; what < 8; what++) {
                due("back, seam " + s + ", what " + what, x.told(s, what), facts[what - 2]);
            }
        }
        due("full", x.seam(0, 0, 0), FULL);
    }

    private static void imageKeepsAll() {
        SewsUpTheAfternoon x = anAfternoon();
        x.seam(SEAM, 1, 304);
        due("text", read(x, "pulls 2;wears 3;stands 4;"), 1);
        x.force(1);
        x.set(0, 0, 998);
        int worth = x.hours(0);
        due("image", x.image(), 1);
        allJoys(x, 1);
        x.force(0);
        due("a day", x.pass(), 0);
        x.cut(SEAM, 0, 0);
        x.drawn(1);
        x.run(40, 0);
        due("back", x.back(), 1);
        due("joys", x.told(4, 1), -20);
        due("day", x.told(0, 0), 998);
        due("worn", x.told(0, 3), 0);
        due("the rule", x.count(5), 1);
        due("worth", x.hours(0), worth);
        due("image of what is back", x.image(), 1);
    }

    private static void imageKeepsNoTextsNoTapeNoSheets() {
        SewsUpTheAfternoon x = new SewsUpTheAfternoon();
        x.seam(SEAM, 0, 0);
        x.sheet(1, 2, 2);
        due("image", x.image(), 1);
        due("text", read(x, "pulls 7;wears 3;stands 4;"), 1);
        x.force(1);
        feed(x, "pulls 9;wears 1;");
        x.sheet(0, 0, 1);
        x.sheet(1, -1, 0);
        due("back", x.back(), 1);
        due("texts stay", x.count(3), 2);
        due("the tape stays", x.count(4), 16);
        due("a sheet stays", x.cell(0, 0, 5), 1);
        due("a sheet is missing yet", x.cell(1, 0, 5), NOTHING);
        due("the rule goes back", x.count(5), 0);
        due("the tape goes on", read(x, "stands 1;"), 2);
        due("the text is there", x.force(1), 0);
        due("pulls by it", x.told(1, 12), 7);
    }

    private static void theLastImageCounts() {
        SewsUpTheAfternoon x = new SewsUpTheAfternoon();
        x.set(0, 0, 5);
        due("image", x.image(), 0);
        x.set(0, 0, 6);
        x.seam(SEAM, 0, 0);
        due("image anew", x.image(), 1);
        x.set(0, 0, 7);
        x.seam(SEAM, 0, 0);
        due("back", x.back(), 1);
        due("day", x.told(0, 0), 6);
        x.set(0, 0, 8);
        due("back again", x.back(), 1);
        due("day again", x.told(0, 0), 6);
    }

    // ---- promise 21

    private static void countsAreWhat0To5() {
        SewsUpTheAfternoon x = new SewsUpTheAfternoon();
        int[] least = {0, 0, 16, 1, 0, 0};
        for (int what = 0; what < 6; what++) {
            due("count " + what, x.count(what), least[what]);
        }
        int[] none = {LEAST, -1, 6, MOST};
        for (int what : none) {
            due("count " + what, x.count(what), BAD);
        }
    }

    private static void countsAtTheirMost() {
        SewsUpTheAfternoon x = new SewsUpTheAfternoon();
        for (int t = 1; t < 6; t++) {
            due("text", read(x, "pulls 7;wears 3;stands 4;"), t);
        }
        x.force(5);
        feed(x, " ".repeat(160));
        for (int s = 0; s < 6; s++) {
            x.seam(SEAM, 0, 15);
        }
        int[] most = {6, 0, 0, 6, 160, 5};
        for (int what = 0; what < 6; what++) {
            due("count " + what, x.count(what), most[what]);
        }
        for (int s = 0; s < 6; s++) {
            due("hours that aren't gone", x.count(2), 0);
            x.set(4, s, 1);
            due("burst", x.count(1), s + 1);
        }
        due("all hours", x.count(2), 16);
        due("seams are there yet", x.count(0), 6);
    }
}
