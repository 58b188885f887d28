/** The edges of the day and its seams (promises 1 to 4 and 8 to 10), a test for each sentence that names one. */
public final class DayBoundsTest extends Checks {
    private static final int SEAM = 0, SILK = 1, WOOL = 2, HAIR = 3, DARN = 4, PIN = 5;

    public static void main(String[] args) {
        aNewObjectHasNoSeams();
        everyCallOfANewObject();
        hoursAre0To15();
        joysAreMinus99To99();
        dayIs0To999();
        numbersAre0To9();
        wornIs0To9999();
        burstIs0Or1();
        setsAreWhat0To4();
        toldIsWhat0To12();
        seamsAreNumberedFrom0();
        kindsAre0To5();
        lastIsNoLessThanFirst();
        badIsAheadOfFull();
        aSeamComesNotWornNotBurst();
        pullsOfKinds();
        wearsOfKinds();
        standsOfKinds();
        whatATextTellsIsBounded();
        theRuleAtFirst();
        goneBySeveral();
        pulledAtPastWhatIsGone();
        gladOfMostPulls();
        worthOfAllHours();
        edgesAreBits();
        stretchOnEnd();
        tightestOfLikeOnes();
        hoursAreWhat0To4();
        wornIs9999AtMost();
        burstsAtAsMuchAsItStands();
        toldAsItIsThenByNumbers();
        passTellsBits();
        passAtDay999();
        runIsOf0To40Days();
        runIsAskedWhat();
        runInWhichDayItBursts();
        runCountsTheBurst();
        runMayPassDay999();
        runsWorthOfAllDays();
        end();
    }

    // ---- promise 1, and terms: what is at first

    private static void aNewObjectHasNoSeams() {
        SewsUpTheAfternoon x = new SewsUpTheAfternoon();
        due("seams at first", x.count(0), 0);
        due("burst at first", x.count(1), 0);
        due("day at first", x.told(0, 0), 0);
        for (int h = 0; h < 16; h++) {
            int[] whats = {1, 10, 11, 12};
            for (int what : whats) {
                due("hour " + h + " at first, what " + what, x.told(h, what), 0);
            }
        }
        for (int what = 2; what < 10; what++) {
            due("told of no seam, what " + what, x.told(0, what), -1000);
        }
    }

    private static void everyCallOfANewObject() {
        SewsUpTheAfternoon x = new SewsUpTheAfternoon();
        due("unpick of no seam", x.unpick(0), NONE);
        due("unpick of no seam, worth", x.unpick(1), 0);
        due("run with no seam", x.run(40, 0) + x.run(40, 1) + x.run(40, 2), 0);
        due("run of no seam", x.run(40, 10), -1000000);
        due("thread of no seam", x.thread(0, 1, 0), -1000000);
        due("move of no seam", x.move(0, 0), -100000);
        due("taken of no seam", x.taken(0, 0), NOTHING);
        due("text of no byte", x.text(), -100);
        due("back to no image", x.back(), STATE);
        due("pass with no seam", x.pass(), 0);
        due("image of no seam", x.image(), 0);
        due("back to no seam", x.back(), 0);
    }

    // ---- promises 2 to 4

    private static void hoursAre0To15() {
        int[] none = {-1, 16, 100, LEAST, MOST};
        int[] whats = {1, 10, 11, 12};
        for (int h : none) {
            SewsUpTheAfternoon x = new SewsUpTheAfternoon();
            due("set joy of hour " + h, x.set(1, h, 5), -1000);
            for (int what : whats) {
                due("told of hour " + h + ", what " + what, x.told(h, what), -1000);
            }
            due("worth without hour " + h, x.hours(0), 0);
        }
        for (int h = 0; h < 16; h += 15) {
            SewsUpTheAfternoon x = new SewsUpTheAfternoon();
            due("set joy of hour " + h, x.set(1, h, 5), 0);
            due("joy of hour " + h, x.told(h, 1), 5);
            due("glad of hour " + h, x.told(h, 10), 5);
            x.seam(SEAM, 0, 101 * h);
            due("gone of hour " + h, x.told(h, 11), 1);
            due("glad of gone hour " + h, x.told(h, 10), 0);
            due("pulled at gone hour " + h, x.told(h, 12), 0);
            due("joy of gone hour " + h, x.told(h, 1), 5);
        }
    }

    /** Takes the least and the most, refuses the next ones, and tells each time what it was. */
    private static void range(int what, int least, int most) {
        SewsUpTheAfternoon x = new SewsUpTheAfternoon();
        x.seam(SEAM, 0, 0);
        String set = "set " + what + " to ";
        due(set + least, x.set(what, 0, least), 0);
        due(set + "below", x.set(what, 0, least - 1), -1000);
        due(set + "the least int", x.set(what, 0, LEAST), -1000);
        due("told behind below", x.told(0, what), least);
        due(set + most, x.set(what, 0, most), least);
        due(set + "above", x.set(what, 0, most + 1), -1000);
        due(set + "the most int", x.set(what, 0, MOST), -1000);
        due("told behind above", x.told(0, what), most);
        due(set + "the same", x.set(what, 0, most), most);
    }

    private static void joysAreMinus99To99() {
        range(1, -99, 99);
    }

    private static void dayIs0To999() {
        range(0, 0, 999);
        SewsUpTheAfternoon x = new SewsUpTheAfternoon();
        int[] ofs = {-1, 16, LEAST, MOST};
        for (int i = 0; i < ofs.length; i++) {
            due("set day, of " + ofs[i], x.set(0, ofs[i], 10 + i), i == 0 ? 0 : 9 + i);
            due("told day, of " + ofs[i], x.told(ofs[i], 0), 10 + i);
        }
        due("day above, of any", x.set(0, -1, 1000), -1000);
    }

    private static void numbersAre0To9() {
        range(2, 0, 9);
        for (int number = -2; number < 12; number++) {
            boolean is = number >= 0 && number <= 9;
            SewsUpTheAfternoon x = new SewsUpTheAfternoon();
            due("seam of number " + number, x.seam(SEAM, number, 0), is ? 0 : BAD);
            due("told number " + number, x.told(0, 2), is ? number : -1000);
        }
        due("seam of the least number", new SewsUpTheAfternoon().seam(SEAM, LEAST, 0), BAD);
        due("seam of the most number", new SewsUpTheAfternoon().seam(SEAM, MOST, 0), BAD);
    }

    private static void wornIs0To9999() {
        range(3, 0, 9999);
    }

    private static void burstIs0Or1() {
        range(4, 0, 1);
        SewsUpTheAfternoon x = new SewsUpTheAfternoon();
        x.seam(SEAM, 0, 405);
        due("burst", x.set(4, 0, 1), 0);
        due("hours of the burst", x.hours(1), 0);
        due("burst no more", x.set(4, 0, 0), 1);
        due("hours of the burst no more", x.hours(1), 3 << 4);
    }

    private static void setsAreWhat0To4() {
        SewsUpTheAfternoon x = new SewsUpTheAfternoon();
        x.seam(SEAM, 0, 0);
        int[] none = {-1, 5, 6, 7, 8, 9, 10, 11, 12, 13, LEAST, MOST};
        for (int what : none) {
            due("set what " + what, x.set(what, 0, 0), -1000);
        }
    }

    private static void toldIsWhat0To12() {
        SewsUpTheAfternoon x = new SewsUpTheAfternoon();
        x.seam(SILK, 3, 203);
        int[] none = {-1, 13, 14, LEAST, MOST};
        for (int what : none) {
            due("told what " + what, x.told(0, what), -1000);
        }
        int[] all = {0, 0, 3, 0, 0, SILK, 2, 3, 6, 20, 0, 0, 0};
        for (int what = 0; what < all.length; what++) {
            due("told what " + what, x.told(0, what), all[what]);
        }
    }

    private static void seamsAreNumberedFrom0() {
        SewsUpTheAfternoon x = new SewsUpTheAfternoon();
        for (int n = 0; n <= 6; n++) {
            int[] ofs = {-1, 0, n - 1, n, 6, LEAST, MOST};
            for (int of : ofs) {
                boolean is = of >= 0 && of < n;
                due("number of " + of + " by " + n, x.told(of, 2), is ? of : -1000);
                due("set number of " + of + " by " + n, x.set(2, of, is ? of : 0), is ? of : -1000);
                due("set worn of " + of + " by " + n, x.set(3, of, 0), is ? 0 : -1000);
                due("set burst of " + of + " by " + n, x.set(4, of, 0), is ? 0 : -1000);
                due("stands of " + of + " by " + n, x.told(of, 9), is ? 20 : -1000);
            }
            due("seam " + n, x.seam(SEAM, n, 0), n < 6 ? n : FULL);
            due("seams", x.count(0), Math.min(6, n + 1));
        }
    }

    private static void kindsAre0To5() {
        for (int kind = -2; kind < 8; kind++) {
            boolean is = kind >= 0 && kind <= 5;
            SewsUpTheAfternoon x = new SewsUpTheAfternoon();
            due("seam of kind " + kind, x.seam(kind, 0, 0), is ? 0 : BAD);
            due("told kind " + kind, x.told(0, 5), is ? kind : -1000);
        }
        due("seam of the least kind", new SewsUpTheAfternoon().seam(LEAST, 0, 0), BAD);
        due("seam of the most kind", new SewsUpTheAfternoon().seam(MOST, 0, 0), BAD);
    }

    private static void lastIsNoLessThanFirst() {
        int came = 0;
        for (int ends = -250; ends < 1850; ends++) {
            int first = ends / 100;
            int last = ends % 100;
            boolean is = ends >= 0 && last <= 15 && first <= last;
            SewsUpTheAfternoon x = new SewsUpTheAfternoon();
            due("seam " + ends, x.seam(SEAM, 0, ends), is ? 0 : BAD);
            due("first of " + ends, x.told(0, 6), is ? first : -1000);
            due("last of " + ends, x.told(0, 7), is ? last : -1000);
            came += x.count(0);
        }
        due("ends that are taken", came, 16 * 17 / 2);
        int[] far = {LEAST, LEAST + 48, -1, -100, -1501, 10000, 100 * 100 + 15, MOST, MOST - 47};
        for (int ends : far) {
            due("seam " + ends, new SewsUpTheAfternoon().seam(SEAM, 0, ends), BAD);
        }
    }

    private static void badIsAheadOfFull() {
        SewsUpTheAfternoon x = new SewsUpTheAfternoon();
        for (int s = 0; s < 6; s++) {
            due("seam", x.seam(s, s, 0), s);
            x.set(4, s, 1);
        }
        due("kind ahead of full", x.seam(6, 0, 0), BAD);
        due("number ahead of full", x.seam(0, 10, 0), BAD);
        due("ends ahead of full", x.seam(0, 0, 100), BAD);
        due("full of the burst", x.seam(0, 0, 0), FULL);
        due("seams", x.count(0), 6);
    }

    private static void aSeamComesNotWornNotBurst() {
        SewsUpTheAfternoon x = new SewsUpTheAfternoon();
        due("image", x.image(), 0);
        for (int round = 0; round < 2; round++) {
            due("seam", x.seam(DARN, 7, 305), 0);
            int[] facts = {7, 0, 0, DARN, 3, 5};
            for (int what = 2; what < 8; what++) {
                due("a seam that comes, what " + what, x.told(0, what), facts[what - 2]);
            }
            x.set(2, 0, 9);
            x.set(3, 0, 9999);
            x.set(4, 0, 1);
            x.back();
        }
    }

    // ---- the kinds

    private static SewsUpTheAfternoon told(String part, int v) {
        String[] parts = {"pulls", "wears", "stands"};
        StringBuilder text = new StringBuilder();
        for (String p : parts) {
            text.append(p).append(' ').append(p.equals(part) ? v : 1).append(';');
        }
        return by(text.toString());
    }

    /** Kind, number, length (15 at most), what the text tells, what is pulled. */
    private static void pullsOfKinds() {
        int[][] rows = {{SEAM, 9, 1, 0, 0}, {SEAM, 9, 15, 99, 99}, {SEAM, 0, 1, 100, 99}, {SEAM, 0, 1, 9999, 99},
            {SILK, 9, 1, 0, 0}, {SILK, 9, 1, 1, 0}, {SILK, 9, 15, 2, 1}, {SILK, 0, 1, 99, 49}, {SILK, 0, 1, 200, 49},
            {WOOL, 9, 15, 0, 2}, {WOOL, 9, 1, 96, 98}, {WOOL, 0, 1, 97, 99}, {WOOL, 0, 1, 98, 99}, {WOOL, 0, 1, 99, 99},
            {HAIR, 9, 1, 99, 0}, {HAIR, 9, 2, 99, 0}, {HAIR, 9, 3, 99, 0}, {HAIR, 9, 4, 99, 49}, {HAIR, 0, 15, 1, 0},
            {DARN, 0, 1, 0, 2}, {DARN, 9, 15, 0, 11}, {DARN, 9, 1, 87, 98}, {DARN, 9, 1, 88, 99}, {DARN, 9, 1, 89, 99},
            {DARN, 0, 1, 97, 99}, {DARN, 9, 1, 999, 99},
            {PIN, 9, 1, 99, 1}, {PIN, 0, 3, 0, 3}, {PIN, 9, 15, 0, 15}};
        for (int[] r : rows) {
            String of = "pulls of kind " + r[0] + ", number " + r[1] + ", length " + r[2] + ", by " + r[3];
            SewsUpTheAfternoon x = told("pulls", r[3]);
            x.seam(r[0], r[1], r[2] - 1);
            due(of + ", behind", x.told(r[2], 12), r[4]);
            due(of + ", worth", x.hours(0), -r[4]);
            SewsUpTheAfternoon y = told("pulls", r[3]);
            y.seam(r[0], r[1], 100 * (16 - r[2]) + 15);
            due(of + ", ahead", y.told(15 - r[2], 12), r[4]);
        }
    }

    /** Kind, number, what the text tells, what is worn on an even day, and on an odd one. */
    private static void wearsOfKinds() {
        int[][] rows = {{SEAM, 9, 0, 0, 0}, {SEAM, 9, 99, 99, 99}, {SEAM, 9, 100, 99, 99},
            {SILK, 9, 0, 0, 0}, {SILK, 9, 49, 98, 98}, {SILK, 9, 50, 99, 99}, {SILK, 9, 99, 99, 99},
            {WOOL, 9, 0, 0, 0}, {WOOL, 9, 98, 98, 98}, {WOOL, 9, 99, 99, 99},
            {HAIR, 0, 0, 0, 0}, {HAIR, 9, 0, 9, 9}, {HAIR, 8, 45, 98, 98}, {HAIR, 9, 45, 99, 99}, {HAIR, 9, 46, 99, 99},
            {HAIR, 0, 50, 99, 99},
            {DARN, 9, 0, 0, 0}, {DARN, 9, 1, 0, 1}, {DARN, 9, 2, 1, 2}, {DARN, 9, 99, 49, 99}, {DARN, 9, 200, 49, 99},
            {PIN, 0, 0, 9, 9}, {PIN, 9, 99, 9, 9}};
        for (int[] r : rows) {
            String of = "wears of kind " + r[0] + ", number " + r[1] + ", by " + r[2];
            SewsUpTheAfternoon x = told("wears", r[2]);
            x.seam(r[0], r[1], 203);
            int[] days = {0, 1, 2, 997, 998, 999};
            for (int day : days) {
                x.set(0, 0, day);
                due(of + ", day " + day, x.told(0, 8), r[3 + day % 2]);
            }
            x.set(0, 0, 998);
            x.pass();
            due(of + ", worn on an even day", x.told(0, 3), r[3]);
        }
    }

    /** Kind, number, length, what the text tells, how much it stands. */
    private static void standsOfKinds() {
        int[][] rows = {{SEAM, 9, 16, 0, 0}, {SEAM, 9, 1, 999, 999}, {SEAM, 9, 1, 1000, 999},
            {SILK, 9, 16, 0, 0}, {SILK, 9, 16, 999, 999},
            {WOOL, 9, 1, 0, 1}, {WOOL, 9, 16, 0, 16}, {WOOL, 9, 1, 998, 999}, {WOOL, 9, 1, 999, 999}, {WOOL, 0, 16, 983, 999},
            {WOOL, 0, 16, 984, 999}, {WOOL, 0, 16, 982, 998},
            {HAIR, 9, 16, 0, 0}, {HAIR, 9, 1, 1, 0}, {HAIR, 9, 3, 2, 1}, {HAIR, 9, 4, 999, 499}, {HAIR, 9, 1, 2000, 499},
            {DARN, 9, 1, 0, 2}, {DARN, 9, 16, 0, 32}, {DARN, 9, 1, 498, 998}, {DARN, 9, 1, 499, 999}, {DARN, 9, 1, 999, 999},
            {DARN, 0, 16, 483, 998}, {DARN, 0, 16, 484, 999},
            {PIN, 0, 1, 999, 10}, {PIN, 9, 16, 0, 19}};
        for (int[] r : rows) {
            SewsUpTheAfternoon x = told("stands", r[3]);
            x.seam(r[0], r[1], r[2] - 1);
            due("stands of kind " + r[0] + ", number " + r[1] + ", length " + r[2] + ", by " + r[3], x.told(0, 9), r[4]);
        }
    }

    private static void whatATextTellsIsBounded() {
        String[] below = {"-1", "-9999", "0-9999*9999", "8192*8192*32"};
        for (String e : below) {
            bounds("pulls " + e + ";wears " + e + ";stands " + e + ";", 0, 0, 0, 2, 0, 1);
        }
        String[] above = {"1000", "9999", "9999*9999", "8192*8192*32-1"};
        for (String e : above) {
            bounds("pulls " + e + ";wears " + e + ";stands " + e + ";", 99, 99, 999, 99, 99, 999);
        }
    }

    /** Told of a seam of length 1, then of a wool. */
    private static void bounds(String text, int... want) {
        for (int kind = 0; kind < 4; kind += 2) {
            SewsUpTheAfternoon x = by(text);
            x.seam(kind, 0, 0);
            String of = text + " of kind " + kind;
            due("pulls, " + of, x.told(1, 12), want[3 * kind / 2]);
            due("wears, " + of, x.told(0, 8), want[3 * kind / 2 + 1]);
            due("stands, " + of, x.told(0, 9), want[3 * kind / 2 + 2]);
        }
    }

    private static void theRuleAtFirst() {
        for (int last = 0; last < 16; last++) {
            SewsUpTheAfternoon x = new SewsUpTheAfternoon();
            x.seam(SEAM, 0, last);
            due("pulls of length " + (last + 1), x.hours(0), last < 15 ? -last - 1 : 0);
            due("wears of length " + (last + 1), x.told(0, 8), last + 2);
            due("stands of length " + (last + 1), x.told(0, 9), 20);
        }
    }

    // ---- promise 8

    private static void goneBySeveral() {
        SewsUpTheAfternoon x = new SewsUpTheAfternoon();
        x.seam(SEAM, 0, 306);
        x.seam(SEAM, 0, 508);
        x.seam(SEAM, 0, 15);
        x.set(4, 2, 1);
        due("gone by two, not by the burst", x.hours(1), 63 << 3);
        due("hours that aren't gone", x.count(2), 10);
        x.set(4, 0, 1);
        due("gone by the other yet", x.hours(1), 15 << 5);
        x.set(4, 1, 1);
        due("gone by none", x.hours(1), 0);
        due("all hours aren't gone", x.count(2), 16);
        x.set(4, 2, 0);
        due("gone by all", x.hours(1), 65535);
        due("no hour isn't gone", x.count(2), 0);
    }

    private static void pulledAtPastWhatIsGone() {
        SewsUpTheAfternoon x = by("pulls 1+number;wears 1;stands 9;");
        // 2..4, 5..6 and 4..8 are one gap: each pulls at 1 and at 9
        x.seam(SEAM, 0, 204);
        x.seam(SEAM, 1, 506);
        x.seam(SEAM, 3, 408);
        due("pulled ahead of all", x.told(1, 12), 1 + 2 + 4);
        due("pulled behind all", x.told(9, 12), 1 + 2 + 4);
        due("edges of one gap", x.hours(2), 1 << 1 | 1 << 9);
        // what is burst lies in between: 5 is there again, 4 and 6 are not
        x.set(4, 2, 1);
        x.set(4, 1, 1);
        due("pulled at what is there again", x.told(5, 12), 1);
        due("edges by what is there again", x.hours(2), 1 << 1 | 1 << 5);
        x.seam(SEAM, 4, 1);
        due("none ahead", x.hours(2), 1 << 5);
        due("all behind", x.told(5, 12), 1 + 5);
        x.seam(SEAM, 5, 515);
        due("none ahead, none behind", x.hours(2), 0);
        due("worth of none", x.hours(0), 0);
    }

    /** By six seams no GLAD comes down to -999: -99 less six times 99 is the least. */
    private static void gladOfMostPulls() {
        SewsUpTheAfternoon x = by("pulls 99;wears 0;stands 999;");
        for (int s = 0; s < 6; s++) {
            x.seam(SEAM, 0, 707);
        }
        x.set(1, 6, -99);
        x.set(1, 8, 99);
        due("least glad", x.told(6, 10), -99 - 594);
        due("most glad of these", x.told(8, 10), 99 - 594);
        due("most pulled", x.told(6, 12), 594);
        due("worth", x.hours(0), -2 * 594);
        due("cut with a seventh, of all", x.cut(SEAM, 0, 1), 0);
    }

    private static void worthOfAllHours() {
        SewsUpTheAfternoon x = new SewsUpTheAfternoon();
        allJoys(x, 99);
        due("most worth", x.hours(0), 1584);
        allJoys(x, -99);
        due("least worth of joys", x.hours(0), -1584);
        x.seam(SEAM, 0, 15);
        due("worth of all gone", x.hours(0), 0);
        x.set(4, 0, 1);
        due("worth of all there again", x.hours(0), -1584);
    }

    private static void edgesAreBits() {
        SewsUpTheAfternoon x = new SewsUpTheAfternoon();
        due("no edges", x.hours(2), 0);
        x.seam(SEAM, 0, 114);
        due("edges 0 and 15", x.hours(2), 1 | 1 << 15);
        x.set(4, 0, 1);
        due("the burst has no edges", x.hours(2), 0);
        x.seam(SEAM, 0, 0);
        due("edge behind alone", x.hours(2), 2);
        x.seam(SEAM, 0, 1515);
        due("edge ahead alone", x.hours(2), 2 | 1 << 14);
        SewsUpTheAfternoon y = by("pulls 0;wears 0;stands 9;");
        y.seam(SEAM, 0, 707);
        due("pulled at by 0", y.hours(2), 1 << 6 | 1 << 8);
        due("pulled at by 0, worth", y.hours(0), 0);
    }

    private static void stretchOnEnd() {
        int[][] rows = {{0, 15}, {1515, 15}, {101, 14}, {1414, 14}, {707, 8}, {808, 8}, {114, 1}, {15, 0}, {14, 1}, {115, 1}};
        for (int[] r : rows) {
            SewsUpTheAfternoon x = new SewsUpTheAfternoon();
            due("stretch of all", x.hours(3), 16);
            x.seam(SEAM, 0, r[0]);
            due("stretch by " + r[0], x.hours(3), r[1]);
            x.set(4, 0, 1);
            due("stretch by none", x.hours(3), 16);
        }
        SewsUpTheAfternoon x = new SewsUpTheAfternoon();
        x.seam(SEAM, 0, 303);
        x.seam(SEAM, 0, 808);
        due("stretch of 3, 4 and 7", x.hours(3), 7);
        x.seam(SEAM, 0, 1212);
        due("stretch of 3, 4, 3 and 3", x.hours(3), 4);
    }

    private static void tightestOfLikeOnes() {
        SewsUpTheAfternoon x = new SewsUpTheAfternoon();
        due("tightest of none", x.hours(4), NONE);
        x.seam(SEAM, 0, 1515);
        due("tightest of one", x.hours(4), 14);
        x.seam(SEAM, 0, 202);
        due("tightest, the first of like ones", x.hours(4), 1);
        x.seam(SEAM, 0, 1214);
        due("tightest, pulled most", x.hours(4), 11);
        x.set(4, 2, 1);
        x.seam(SEAM, 0, 506);
        due("tightest, ahead of those that are pulled less", x.hours(4), 4);
        x.set(4, 0, 1);
        x.set(4, 1, 1);
        x.set(4, 3, 1);
        due("tightest of the burst", x.hours(4), NONE);
        x.seam(SEAM, 0, 114);
        due("tightest may be 0", x.hours(4), 0);
        x.seam(SEAM, 0, 0);
        due("tightest may be 15", x.hours(4), 15);
    }

    private static void hoursAreWhat0To4() {
        SewsUpTheAfternoon x = new SewsUpTheAfternoon();
        int[] none = {-1, 5, LEAST, MOST};
        for (int what : none) {
            due("hours " + what, x.hours(what), -100000);
        }
    }

    // ---- promise 9

    private static void wornIs9999AtMost() {
        SewsUpTheAfternoon x = by("pulls 0;wears 5;stands 999;");
        int[] worn = {9993, 9994, 9995, 9999};
        for (int w : worn) {
            x.seam(SEAM, 0, 0);
            x.set(3, x.count(0) - 1, w);
        }
        due("pass of the most worn", x.pass(), 15);
        int[] then = {9998, 9999, 9999, 9999};
        for (int s = 0; s < 4; s++) {
            due("worn from " + worn[s], x.told(s, 3), then[s]);
        }
    }

    private static void burstsAtAsMuchAsItStands() {
        SewsUpTheAfternoon x = by("pulls 0;wears 5;stands 20;");
        int[] worn = {14, 15, 16, 0};
        for (int w : worn) {
            x.seam(SEAM, 0, 0);
            x.set(3, x.count(0) - 1, w);
        }
        due("pass at 19, 20, 21, 5", x.pass(), 2 | 4);
        due("pass at 24, 10", x.pass(), 1);
        due("pass of the last", x.pass(), 0);
        due("the burst is not worn", x.told(1, 3), 20);
        due("the last is worn", x.told(3, 3), 15);
        due("pass at 20", x.pass(), 8);
        SewsUpTheAfternoon y = by("pulls 0;wears 0;stands 0;");
        y.seam(SEAM, 0, 0);
        due("0 worn is as much as stands 0", y.pass(), 1);
        SewsUpTheAfternoon z = by("pulls 0;wears 0;stands 999;");
        z.seam(SEAM, 0, 0);
        z.set(3, 0, 998);
        due("998 worn by stands 999", z.pass(), 0);
        z.set(3, 0, 999);
        due("999 worn by stands 999", z.pass(), 1);
    }

    private static void toldAsItIsThenByNumbers() {
        // worn as it is then: twice as much each day
        SewsUpTheAfternoon x = by("pulls 0;wears worn;stands 999;");
        x.seam(SEAM, 0, 0);
        x.set(3, 0, 1);
        for (int n = 0; n < 5; n++) {
            x.pass();
        }
        due("worn by worn", x.told(0, 3), 32);
        // all are worn ahead of the first burst: by as many seams as were there
        SewsUpTheAfternoon y = by("pulls 0;wears seams;stands 3*seams;");
        for (int s = 0; s < 3; s++) {
            y.seam(SEAM, 0, 0);
        }
        y.set(3, 0, 6);
        y.set(3, 1, 2);
        // 9, 5 and 3: 0 bursts by 9, 1 stands by 6, 2 stands by 6
        due("pass by 3 seams", y.pass(), 1);
        due("worn of 1 by 3", y.told(1, 3), 5);
        due("worn of 2 by 3", y.told(2, 3), 3);
        // 7 and 5: 1 bursts by 6, then 2 by 3
        due("pass by 2 seams", y.pass(), 6);
        // of another order: what is ahead by number stands by more
        SewsUpTheAfternoon z = by("pulls 0;wears 0;stands 3*seams;");
        z.seam(SEAM, 0, 0);
        z.seam(SEAM, 0, 0);
        z.set(3, 0, 3);
        z.set(3, 1, 6);
        due("pass of the one behind", z.pass(), 2);
        due("pass of the one ahead", z.pass(), 1);
        // stands told of worn as it is then
        SewsUpTheAfternoon w = by("pulls 0;wears 2;stands 5+(worn<4)*9;");
        w.seam(SEAM, 0, 0);
        w.set(3, 0, 1);
        due("pass at 3, stands 14", w.pass(), 0);
        due("pass at 5, stands 5", w.pass(), 1);
        // the day is one more only behind that
        SewsUpTheAfternoon v = by("pulls 0;wears 3+day;stands 10-day;");
        v.seam(SEAM, 0, 0);
        v.set(0, 0, 1);
        v.set(3, 0, 5);
        due("pass by day 1", v.pass(), 1);
        due("worn by day 1", v.told(0, 3), 9);
    }

    private static void passTellsBits() {
        SewsUpTheAfternoon x = new SewsUpTheAfternoon();
        for (int s = 0; s < 6; s++) {
            x.seam(SEAM, 0, 101 * s);
            x.set(3, s, 9999);
        }
        x.set(4, 2, 1);
        due("pass of all but the burst", x.pass(), 63 - 4);
        due("burst", x.count(1), 6);
        due("pass of the burst", x.pass(), 0);
        due("two days", x.told(0, 0), 2);
        due("burst are there yet", x.count(0), 6);
    }

    private static void passAtDay999() {
        SewsUpTheAfternoon x = new SewsUpTheAfternoon();
        x.seam(SEAM, 0, 0);
        x.set(0, 0, 998);
        due("pass at 998", x.pass(), 0);
        due("day 999", x.told(0, 0), 999);
        due("worn once", x.told(0, 3), 2);
        due("pass at 999", x.pass(), STATE);
        due("day 999 yet", x.told(0, 0), 999);
        due("worn once yet", x.told(0, 3), 2);
        x.set(0, 0, 0);
        due("pass at 0", x.pass(), 0);
        due("worn twice", x.told(0, 3), 4);
    }

    // ---- promise 10

    private static void runIsOf0To40Days() {
        SewsUpTheAfternoon x = new SewsUpTheAfternoon();
        x.seam(SEAM, 0, 0);
        allJoys(x, 3);
        int[] none = {-1, 41, LEAST, MOST};
        int[] whats = {0, 1, 2, 10};
        for (int what : whats) {
            for (int n : none) {
                due("run " + n + ", what " + what, x.run(n, what), -1000000);
            }
        }
        due("run 0, worth", x.run(0, 0), 45 - 1);
        due("run 0, burst", x.run(0, 1), 0);
        due("run 0, all", x.run(0, 2), 0);
        due("run 0, when", x.run(0, 10), NONE);
        // worn 2 a day it bursts in the tenth
        due("run 40, worth", x.run(40, 0), 48);
        due("run 40, burst", x.run(40, 1), 1);
        due("run 40, all", x.run(40, 2), 9 * 44 + 31 * 48);
        due("run 40, when", x.run(40, 10), 9);
    }

    private static void runIsAskedWhat() {
        SewsUpTheAfternoon x = new SewsUpTheAfternoon();
        due("run of no seam", x.run(1, 10), -1000000);
        for (int s = 0; s < 6; s++) {
            x.seam(SEAM, 0, 0);
            due("run of seam " + s, x.run(1, 10 + s), NONE);
            due("run of seam " + (s + 1), x.run(1, 11 + s), -1000000);
        }
        int[] none = {-1, 3, 4, 9, 16, 20, LEAST, LEAST + 10, MOST};
        for (int what : none) {
            due("run what " + what, x.run(1, what), -1000000);
        }
    }

    private static void runInWhichDayItBursts() {
        SewsUpTheAfternoon x = by("pulls 0;wears 1;stands 40;");
        x.seam(SEAM, 0, 0);
        due("bursts in the last of 40", x.run(40, 10), 39);
        due("bursts in none of 39", x.run(39, 10), NONE);
        x.set(3, 0, 39);
        due("bursts in the first", x.run(1, 10), 0);
        due("bursts in the first of more", x.run(40, 10), 0);
        x.set(4, 0, 1);
        due("the burst bursts in none", x.run(40, 10), NONE);
    }

    private static void runCountsTheBurst() {
        SewsUpTheAfternoon x = by("pulls 0;wears 1;stands 10*number;");
        for (int s = 0; s < 6; s++) {
            x.seam(SEAM, s, 0);
        }
        x.set(4, 5, 1);
        int[] days = {0, 1, 9, 10, 19, 20, 39, 40};
        int[] burst = {1, 2, 2, 3, 3, 4, 5, 6};
        for (int i = 0; i < days.length; i++) {
            due("burst behind " + days[i], x.run(days[i], 1), burst[i]);
        }
        due("burst truly", x.count(1), 1);
    }

    private static void runMayPassDay999() {
        SewsUpTheAfternoon x = by("pulls 1+(999<day)+(1000<day);wears 0;stands 999;");
        x.seam(SEAM, 0, 0);
        x.set(0, 0, 999);
        due("run 0 at 999", x.run(0, 0), -1);
        due("run 1 at 999", x.run(1, 0), -2);
        due("run 2 at 999", x.run(2, 0), -3);
        due("run 40 at 999, all", x.run(40, 2), -2 - 39 * 3);
        due("day truly", x.told(0, 0), 999);
        SewsUpTheAfternoon y = by("pulls day-1030;wears 0;stands 999;");
        y.seam(SEAM, 0, 0);
        y.set(0, 0, 999);
        due("day 1039", y.run(40, 0), -9);
        SewsUpTheAfternoon z = by("pulls 0;wears 2;stands 5;");
        z.seam(DARN, 0, 0);
        z.set(0, 0, 999);
        // it stands 12: worn 2 at 999, 1 at 1000, 2 at 1001, ..
        due("odd and even behind 999", z.run(40, 10), 7);
        z.set(0, 0, 998);
        due("odd and even from 998", z.run(40, 10), 7);
        z.set(3, 0, 10);
        due("from 10 on an even day", z.run(40, 10), 1);
        z.set(0, 0, 999);
        due("from 10 on an odd day", z.run(40, 10), 0);
    }

    private static void runsWorthOfAllDays() {
        SewsUpTheAfternoon x = new SewsUpTheAfternoon();
        allJoys(x, 99);
        due("most of 40 days", x.run(40, 2), 40 * 1584);
        allJoys(x, -99);
        due("least of 40 days", x.run(40, 2), -40 * 1584);
        due("least of a day", x.run(1, 2), -1584);
    }
}
