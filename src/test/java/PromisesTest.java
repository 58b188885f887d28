/** Each promise by hand: ordinary calls, the edges that the document names, wrong calls. */
public final class PromisesTest extends Checks {
    private static final String RULE_OF_NUMBERS = "pulls 30;wears 11;stands 50;";
    private static final long NO = -4611686018427387904L;

    public static void main(String[] args) {
        newObject();
        setting();
        sewing();
        tellingKinds();
        tellingHours();
        feeding();
        faults();
        values();
        longestText();
        namesOfTexts();
        forcing();
        hoursOfDay();
        passing();
        running();
        cutting();
        unpicking();
        threading();
        moving();
        tellingSheets();
        filming();
        drawing();
        imaging();
        counting();
        sheets();
        copying();
        seamsBySheet();
        takenFor();
        end();
    }

    private static void newObject() {
        SewsUpTheAfternoon x = new SewsUpTheAfternoon();
        int[] counts = {0, 0, 16, 1, 0, 0, -2};
        for (int what = 0; what < counts.length; what++) {
            due("new count " + what, x.count(what), counts[what]);
        }
        for (int h = 0; h < 16; h++) {
            due("new joy", x.told(h, 1), 0);
            due("new gone", x.told(h, 11), 0);
        }
        for (int s = 0; s < 4; s++) {
            due("new sheet", x.tells(s, 0), -11);
        }
        due("new day", x.told(0, 0), 0);
        due("new seam", x.told(0, 5), -1000);
        due("new back", x.back(), -3);
        due("NONE", SewsUpTheAfternoon.NONE, -1);
        due("BAD", SewsUpTheAfternoon.BAD, -2);
        due("STATE", SewsUpTheAfternoon.STATE, -3);
        due("FULL", SewsUpTheAfternoon.FULL, -4);
        due("NO", SewsUpTheAfternoon.NO, NO);
    }

    private static void setting() {
        SewsUpTheAfternoon x = new SewsUpTheAfternoon();
        x.seam(2, 5, 304);
        int[][] edges = {{0, 0, 999}, {1, -99, 99}, {2, 0, 9}, {3, 0, 9999}, {4, 0, 1}};
        int[] was = {0, 0, 5, 0, 0};
        for (int[] e : edges) {
            due("set to the least", x.set(e[0], 0, e[1]), was[e[0]]);
            due("set to the most", x.set(e[0], 0, e[2]), e[1]);
            due("set below", x.set(e[0], 0, e[1] - 1), -1000);
            due("set above", x.set(e[0], 0, e[2] + 1), -1000);
            due("told of set", x.told(0, e[0]), e[2]);
        }
        due("set day of any", x.set(0, -77, 3), 999);
        due("told day of any", x.told(-77, 0), 3);
        due("set joy of 15", x.set(1, 15, 4), 0);
        due("set joy of 16", x.set(1, 16, 4), -1000);
        due("set joy of -1", x.set(1, -1, 4), -1000);
        due("set number of 1", x.set(2, 1, 4), -1000);
        due("set worn of -1", x.set(3, -1, 4), -1000);
        due("set 5", x.set(5, 0, 1), -1000);
        due("set -1", x.set(-1, 0, 1), -1000);
        due("set 11", x.set(11, 0, 1), -1000);
    }

    private static void sewing() {
        SewsUpTheAfternoon x = new SewsUpTheAfternoon();
        int[][] bad = {{-1, 0, 0}, {6, 0, 0}, {0, -1, 0}, {0, 10, 0}, {0, 0, -1}, {0, 0, -101}, {0, 0, 16}, {0, 0, 1516},
            {0, 0, 1600}, {0, 0, 201}, {0, 0, 99}, {0, 0, Integer.MAX_VALUE}, {0, 0, Integer.MIN_VALUE}};
        for (int[] b : bad) {
            due("seam " + b[0] + " " + b[1] + " " + b[2], x.seam(b[0], b[1], b[2]), -2);
        }
        int[] ends = {0, 15, 1515, 102, 909, 1415};
        for (int s = 0; s < 6; s++) {
            due("seam", x.seam(s, 9 - s, ends[s]), s);
            int[] facts = {9 - s, 0, 0, s, ends[s] / 100, ends[s] % 100};
            for (int what = 2; what < 8; what++) {
                due("told " + s + " " + what, x.told(s, what), facts[what - 2]);
            }
        }
        due("seam of seven", x.seam(0, 0, 0), -4);
        due("bad seam of seven", x.seam(0, 0, 16), -2);
    }

    private static void tellingKinds() {
        int[][] of = {{30, 11, 11, 50}, {15, 22, 22, 50}, {32, 11, 11, 54}, {15, 29, 29, 25}, {39, 5, 11, 108}, {4, 9, 9, 17}};
        int[][] most = {{99, 99, 99, 999}, {49, 99, 99, 999}, {99, 99, 99, 999}, {49, 99, 99, 499}, {99, 49, 99, 999}, {4, 9, 9, 17}};
        int[][] least = {{0, 0, 0, 0}, {0, 0, 0, 0}, {2, 0, 0, 4}, {0, 7, 7, 0}, {9, 0, 0, 8}, {4, 9, 9, 17}};
        for (int kind = 0; kind < 6; kind++) {
            kindBy(RULE_OF_NUMBERS, kind, of[kind]);
            kindBy("pulls 999;wears 100;stands 1000;", kind, most[kind]);
            kindBy("pulls -1;wears -9999*9999;stands 0-7;", kind, least[kind]);
        }
        SewsUpTheAfternoon x = by(RULE_OF_NUMBERS);
        x.seam(3, 7, 507);
        due("hair of three pulls", x.told(4, 12), 0);
        due("hair of three is by", x.hours(2), 1 << 4 | 1 << 8);
    }

    private static void kindBy(String text, int kind, int[] want) {
        SewsUpTheAfternoon x = by(text);
        x.seam(kind, 7, 508);
        String of = text + " of kind " + kind;
        due("pulls ahead, " + of, x.told(4, 12), want[0]);
        due("pulls behind, " + of, x.told(9, 12), want[0]);
        due("wears, " + of, x.told(0, 8), want[1]);
        due("stands, " + of, x.told(0, 9), want[3]);
        x.set(0, 0, 7);
        due("wears on an odd day, " + of, x.told(0, 8), want[2]);
    }

    private static void tellingHours() {
        SewsUpTheAfternoon x = new SewsUpTheAfternoon();
        x.set(1, 2, 10);
        x.set(1, 3, 50);
        x.set(1, 6, -99);
        x.seam(0, 0, 304);
        x.seam(0, 0, 505);
        due("glad by two", x.told(2, 10), 10 - 3);
        due("pulled by two", x.told(2, 12), 3);
        due("glad gone", x.told(3, 10), 0);
        due("gone", x.told(3, 11), 1);
        due("pulled gone", x.told(3, 12), 0);
        due("glad behind", x.told(6, 10), -99 - 3);
        due("not gone", x.told(6, 11), 0);
        due("glad of none", x.told(16, 10), -1000);
        due("glad of -1", x.told(-1, 12), -1000);
        due("told 13", x.told(0, 13), -1000);
        due("told -1", x.told(0, -1), -1000);
        due("told of no seam", x.told(2, 9), -1000);
        SewsUpTheAfternoon y = by("pulls 99;wears 0;stands 999;");
        for (int s = 0; s < 6; s++) {
            y.seam(0, 0, 101);
        }
        y.set(1, 0, -99);
        due("glad of six", y.told(0, 10), -99 - 6 * 99);
        due("pulled of six", y.told(2, 12), 6 * 99);
    }

    private static void feeding() {
        SewsUpTheAfternoon x = new SewsUpTheAfternoon();
        due("feed -1", x.feed(-1), -2);
        due("feed 256", x.feed(256), -2);
        for (int i = 0; i < 160; i++) {
            due("feed", x.feed(i == 0 ? 255 : i == 1 ? 0 : 32), i + 1);
        }
        due("feed of 161", x.feed(32), -4);
        due("bad feed of 161", x.feed(300), -2);
        due("tape", x.count(4), 160);
        due("text of a byte that begins none", x.text(), -100);
        due("tape behind a fault", x.count(4), 0);
        due("feed behind a fault", x.feed(112), 1);
    }

    private static void fault(String text, int place) {
        SewsUpTheAfternoon x = new SewsUpTheAfternoon();
        due("text of " + text, read(x, text), -100 - place);
        due("tape of " + text, x.count(4), 0);
        due("texts of " + text, x.count(3), 1);
    }

    private static void faults() {
        fault("", 0);
        fault("   \n", 4);
        fault("pulls", 5);
        fault("pulls 1 ;wears 1;stands 1", 25);
        fault("pulls 1;wears 1;stands 1  ", 26);
        fault("pulls 1;wears 1;stands 1;;", 25);
        fault("pulls 1;wears 1;stands 1; x", 26);
        fault("wears 1;", 0);
        fault("pulls;", 5);
        fault("pulls 1;pulls", 8);
        fault("pulls 12345;", 6);
        fault("pulls 1 2;", 8);
        fault("pulls 1length length;", 7);
        fault("pulls lengths;", 6);
        fault("pulls wornz;", 6);
        fault("pulls aorn;", 6);
        fault("pulls Length;", 6);
        fault("pulls 1 > 2;", 8);
        fault("pulls 1\t;", 7);
        fault("pulls 1 < 2 < 3;", 12);
        fault("pulls 1 = 2 < 3;", 12);
        fault("pulls 1 + not 2;", 10);
        fault("pulls 1 < not 2;", 10);
        fault("pulls - not 2;", 8);
        fault("pulls (1;", 8);
        fault("pulls 1);", 7);
        fault("pulls ();", 7);
        fault("pulls 1 or;", 10);
        fault("pulls or 1;", 6);
        fault("pulls 1 and and 1;", 12);
        fault("pulls 1 * ;", 10);
        fault("pulls + 1;", 6);
        fault("pulls wears;", 6);
        fault("pulls ((((((1))))));", 11);
        fault("pulls ------1;", 11);
        fault("pulls not not not not not not 1;", 26);
        fault("pulls not(not((1", 16);
        fault("pulls not(not((1;", 16);
        fault("pulls not(not(((1", 15);
        fault("pulls not(not(-(1", 15);
        fault("pulls 1+(-(not(-not", 15);
        fault("pulls -(-(-1))+-(-(-1)", 22);
        fault("pulls -(-(-1))+-(-(--1)", 20);
        fault("pulls (((((1)))))+(((((-1", 23);
    }

    private static void value(String e, int want) {
        SewsUpTheAfternoon x = by("pulls 0;wears 0;stands " + e + ";");
        x.seam(0, 0, 0);
        due("stands " + e, x.told(0, 9), want);
    }

    private static void values() {
        value("0007", 7);
        value("2+3*4", 14);
        value("(2+3)*4", 20);
        value("20-3-4", 13);
        value("20-3+4", 21);
        value("2--3", 5);
        value("--3", 3);
        value("-3*-4", 12);
        value("500+-3*4", 488);
        value("-2+9", 7);
        value("5<6", 1);
        value("5<5", 0);
        value("5=5", 1);
        value("5=6", 0);
        value("1+1<3", 1);
        value("7 or 0", 1);
        value("0 or 0", 0);
        value("7 and 9", 1);
        value("7 and 0", 0);
        value("1 and 9", 1);
        value("0 and 9", 0);
        value("1 or 1 and 0", 1);
        value("(1 or 1) and 0", 0);
        value("not 7", 0);
        value("not 0", 1);
        value("not not 7", 1);
        value("not 1 < 0", 1);
        value("not 0 and 0", 0);
        value("not 0 or 1", 1);
        value("(1<2)<3", 1);
        value("(((((7)))))+(((((2)))))", 9);
        value("-----7+90", 83);
        value("not not not not not 0", 1);
        value("9999*9999*9999", 0);
        value("9999*9999*43", 999);
        value("9999*9999*43-9999*417-2500", 664);
        value("length\n", 1);
        value("-7", 0);
        value("1000", 999);
    }

    private static void longestText() {
        String most = "wears " + "1+".repeat(60) + "1;stands 9;";
        int more = (160 - 9 - most.length()) / 2;
        String text = "pulls(1)" + "+1".repeat(more) + ";" + most;
        SewsUpTheAfternoon x = new SewsUpTheAfternoon();
        due("text of " + text.length(), read(x, text), 1);
        x.force(1);
        x.seam(0, 0, 101);
        due("long pulls", x.told(0, 12), 1 + more);
        due("long wears", x.told(0, 8), 61);
        due("text behind a long fault", read(x, text.substring(0, 150)), -250);
        due("text that comes anew", read(x, text), 2);
        due("force 2", x.force(2), 1);
        due("pulls anew", x.told(0, 12), 1 + more);
        due("wears anew", x.told(0, 8), 61);
        due("stands anew", x.told(0, 9), 9);
        SewsUpTheAfternoon y = new SewsUpTheAfternoon();
        due("fault at 160", read(y, "pulls(-1)" + "+1".repeat(75) + "+"), -100 - 160);
        due("fault of 160 signs", read(y, ";".repeat(160)), -100);
    }

    private static void namesOfTexts() {
        SewsUpTheAfternoon x = by("pulls joy + 2*seams;wears joy+day+number;stands 100*length+10*worn+seams+joy;");
        x.set(1, 4, 7);
        x.set(1, 7, -3);
        x.set(0, 0, 30);
        x.seam(0, 5, 506);
        x.seam(0, 0, 1515);
        x.seam(0, 0, 1515);
        x.set(4, 2, 1);
        x.set(3, 0, 9);
        due("joy and seams ahead", x.told(4, 12), 7 + 4);
        due("joy and seams behind", x.told(7, 12), -3 + 4);
        due("day and number, no joy", x.told(0, 8), 30 + 5);
        due("length, worn, seams", x.told(0, 9), 200 + 90 + 2);
    }

    private static void forcing() {
        SewsUpTheAfternoon x = new SewsUpTheAfternoon();
        for (int t = 1; t < 6; t++) {
            due("text " + t, read(x, "pulls " + t + ";wears 1;stands 1;"), t);
        }
        due("feed", x.feed(65), 1);
        due("text of seven", x.text(), -4);
        due("the tape stays", x.count(4), 1);
        due("texts", x.count(3), 6);
        x.seam(0, 0, 101);
        due("force 5", x.force(5), 0);
        due("force 3", x.force(3), 5);
        due("by 3", x.told(0, 12), 3);
        due("force 6", x.force(6), -2);
        due("force -1", x.force(-1), -2);
        due("the rule", x.count(5), 3);
        due("force 0", x.force(0), 3);
        due("by 0", x.told(0, 12), 1);
    }

    private static void hoursOfDay() {
        SewsUpTheAfternoon x = anAfternoon();
        due("worth of all", x.hours(0), 23);
        due("stretch of all", x.hours(3), 16);
        due("tightest of none", x.hours(4), -1);
        x.seam(0, 0, 405);
        due("worth of one", x.hours(0), 23 + 35 - 4);
        due("gone of one", x.hours(1), 3 << 4);
        due("edges of one", x.hours(2), 1 << 3 | 1 << 6);
        due("stretch of one", x.hours(3), 10);
        due("tightest of one", x.hours(4), 3);
        x.seam(0, 0, 1);
        due("edges at the rim", x.hours(2), 1 << 2 | 1 << 3 | 1 << 6);
        x.seam(5, 0, 609);
        due("tightest of three", x.hours(4), 3);
        due("edges over a neighbour", x.hours(2), 1 << 2 | 1 << 3 | 1 << 10);
        due("pulled over a neighbour", x.told(10, 12), 2 + 4);
        due("pulled ahead over a neighbour", x.told(3, 12), 2 + 4);
        x.set(4, 2, 1);
        due("burst is there again", x.hours(1), 3 << 4 | 3);
        x.seam(0, 0, 1215);
        due("tightest is the greatest", x.hours(4), 11);
        due("hours 5", x.hours(5), -100000);
        due("hours -1", x.hours(-1), -100000);
        SewsUpTheAfternoon y = by("pulls 0;wears 0;stands 9;");
        y.seam(0, 0, 202);
        due("edges by 0", y.hours(2), 1 << 1 | 1 << 3);
        due("tightest by 0", y.hours(4), 1);
        y.set(4, 0, 1);
        y.seam(0, 0, 101);
        due("tightest may be the first hour", y.hours(4), 0);
        y.seam(0, 0, 15);
        due("edges of none left", y.hours(2), 0);
        due("stretch of none left", y.hours(3), 0);
        due("tightest of none left", y.hours(4), -1);
    }

    private static void passing() {
        SewsUpTheAfternoon x = by("pulls 1;wears 3+seams;stands 2*seams + 1;");
        for (int s = 0; s < 3; s++) {
            x.seam(0, 0, 101 * s);
        }
        due("pass", x.pass(), 0);
        due("worn", x.told(1, 3), 6);
        due("day", x.told(0, 0), 1);
        x.set(3, 1, 0);
        // 12, 6 and 12 are worn: 0 bursts by 7, then 1 by 5, then 2 by 3
        due("pass that bursts by numbers", x.pass(), 7);
        due("burst", x.count(1), 3);
        due("pass of the burst", x.pass(), 0);
        due("worn of the burst", x.told(2, 3), 12);
        x.set(4, 0, 0);
        x.set(3, 0, 9999);
        due("pass of most worn", x.pass(), 1);
        due("most worn", x.told(0, 3), 9999);
        x.set(0, 0, 998);
        due("pass to the last day", x.pass(), 0);
        due("pass on the last day", x.pass(), -3);
        due("last day", x.told(0, 0), 999);
        SewsUpTheAfternoon y = by("pulls 1;wears 0;stands 0;");
        y.seam(0, 0, 0);
        due("what stands 0 bursts", y.pass(), 1);
        SewsUpTheAfternoon z = new SewsUpTheAfternoon();
        z.seam(4, 0, 3);
        due("darn on an even day", z.pass(), 0);
        due("darn is worn by half", z.told(0, 3), 2);
        due("darn on an odd day", z.pass(), 0);
        due("darn is worn by all", z.told(0, 3), 7);
    }

    private static void running() {
        SewsUpTheAfternoon x = anAfternoon();
        x.seam(0, 0, 405);
        x.seam(0, 0, 9);
        x.set(4, 1, 1);
        x.set(0, 0, 999);
        // worn 3 a day, it stands 20: it bursts in the seventh, 54 till then, 23 from then on
        due("run 0", x.run(0, 0), 54);
        due("run 6", x.run(6, 0), 54);
        due("run 7", x.run(7, 0), 23);
        due("run 6 burst", x.run(6, 1), 1);
        due("run 7 burst", x.run(7, 1), 2);
        due("run 0 all", x.run(0, 2), 0);
        due("run 6 all", x.run(6, 2), 6 * 54);
        due("run 40 all", x.run(40, 2), 6 * 54 + 34 * 23);
        due("run 6 when", x.run(6, 10), -1);
        due("run 40 when", x.run(40, 10), 6);
        due("run when of the burst", x.run(40, 11), -1);
        due("run when of none", x.run(40, 12), -1000000);
        due("run 41", x.run(41, 0), -1000000);
        due("run -1", x.run(-1, 0), -1000000);
        due("run what 3", x.run(1, 3), -1000000);
        due("run what 9", x.run(1, 9), -1000000);
        due("run what -1", x.run(1, -1), -1000000);
        due("nothing truly", x.told(0, 3), 0);
        due("no day truly", x.told(0, 0), 999);
    }

    private static void cutting() {
        SewsUpTheAfternoon x = anAfternoon();
        // 4 and 5 are -35, 3 and 6 pulled at by 2: the most but for 9, which is -40 and costs 2
        due("cut", x.cut(0, 0, 0), 909);
        due("cut worth", x.cut(0, 0, 1), 23 + 40 - 2);
        due("cut of wool", x.cut(2, 0, 1), 23 + 40 - 6);
        due("cut of darn", x.cut(4, 9, 1), 23 + 40 - 24);
        due("cut of hair", x.cut(3, 0, 1), 23 + 40);
        due("nothing truly", x.count(0), 0);
        due("cut of no kind", x.cut(6, 0, 0), -100000);
        due("cut of kind -1", x.cut(-1, 0, 0), -100000);
        due("cut of number 10", x.cut(0, 10, 0), -100000);
        due("cut of number -1", x.cut(0, -1, 0), -100000);
        due("cut what 2", x.cut(0, 0, 2), -100000);
        due("cut what -1", x.cut(0, 0, -1), -100000);
        SewsUpTheAfternoon y = new SewsUpTheAfternoon();
        due("cut of a day as glad", y.cut(3, 0, 0), -1);
        due("cut worth of a day as glad", y.cut(3, 0, 1), 0);
        joys(y, 50, 0, 0, -5, 0, 50, 0, 0, -5, 0, 50);
        for (int s = 0; s < 6; s++) {
            y.seam(3, 0, 1515);
        }
        due("cut with six, the first of like", y.cut(3, 0, 0), 103);
        due("cut with six, worth", y.cut(3, 0, 1), 145);
        SewsUpTheAfternoon z = by("pulls (seams=1)*9;wears 0;stands 9;");
        z.set(1, 8, -20);
        z.seam(0, 0, 1515);
        // by two seams none pulls: it counts itself
        due("cut counts itself", z.cut(0, 0, 1), 0);
        due("cut as now", z.hours(0), -29);
        due("cut of like ones", z.cut(0, 0, 0), 8);
    }

    private static void unpicking() {
        SewsUpTheAfternoon x = anAfternoon();
        x.seam(0, 0, 909);
        x.seam(0, 0, 606);
        x.seam(0, 0, 606);
        due("unpick none", x.unpick(0), 1);
        due("unpick worth", x.unpick(1), x.hours(0) + 2);
        x.set(4, 2, 1);
        due("unpick the bad one", x.unpick(0), 1);
        due("unpick the bad one, worth", x.unpick(1), 61);
        x.set(4, 1, 1);
        due("unpick nothing", x.unpick(0), -1);
        due("unpick nothing, worth", x.unpick(1), 61);
        due("still burst", x.told(1, 4) + x.told(2, 4), 2);
        due("unpick what 2", x.unpick(2), -100000);
        due("unpick what -1", x.unpick(-1), -100000);
        SewsUpTheAfternoon y = by("pulls seams;wears 0;stands 9;");
        y.seam(0, 0, 101);
        y.seam(0, 0, 303);
        // both pull by 2 at 0, 2, 2, 4; one alone by 1 at two hours
        due("unpick counts without", y.unpick(1), -2);
        due("unpick the first of like", y.unpick(0), 0);
    }

    private static void threading() {
        SewsUpTheAfternoon x = anAfternoon();
        x.seam(2, 0, 405);
        due("thread of no day", x.thread(0, 0, 0), 0);
        due("thread of no day, worth", x.thread(0, 0, 1), 0);
        due("thread of a day", x.thread(0, 1, 0), 3);
        due("thread of a day, worth", x.thread(0, 1, 1), 58);
        // wool pulls 4 and is worn 3 a day, stands 22; darn pulls 4, is worn 1, 3, .. and stands 44
        due("thread of long", x.thread(0, 30, 0), 4);
        // darn is worn 44 behind the twenty-second: 23 and 35 less 4 and 4 till then
        due("thread of long, worth", x.thread(0, 30, 1), 21 * 50 + 9 * 23);
        due("no other kind truly", x.told(0, 5), 2);
        due("thread of no seam", x.thread(1, 1, 0), -1000000);
        due("thread of -1", x.thread(-1, 1, 0), -1000000);
        due("thread of 41 days", x.thread(0, 41, 0), -1000000);
        due("thread of -1 days", x.thread(0, -1, 0), -1000000);
        due("thread what 2", x.thread(0, 1, 2), -1000000);
        x.set(4, 0, 1);
        due("thread of the burst", x.thread(0, 40, 0), 0);
        due("thread of the burst, worth", x.thread(0, 40, 1), 40 * 23);
    }

    private static void moving() {
        SewsUpTheAfternoon x = anAfternoon();
        x.seam(0, 0, 1011);
        // 8 and 9 are -40, pulled at by 2 are 7 and 10
        due("move", x.move(0, 0), 8);
        due("move worth", x.move(0, 1), 59);
        due("not truly", x.told(0, 6), 10);
        due("move of no seam", x.move(1, 0), -100000);
        due("move of -1", x.move(-1, 0), -100000);
        due("move what 2", x.move(0, 2), -100000);
        due("move what -1", x.move(0, -1), -100000);
        SewsUpTheAfternoon y = new SewsUpTheAfternoon();
        y.set(1, 15, -30);
        y.set(1, 14, 20);
        y.seam(0, 0, 5);
        // cut off to 15 alone it pulls by 1 at 14 alone
        due("move is cut off", y.move(0, 0), 15);
        due("move is cut off, worth", y.move(0, 1), 19);
        y.set(4, 0, 1);
        due("move of the burst", y.move(0, 0), 0);
        due("move of the burst, worth", y.move(0, 1), -10);
    }

    private static void tellingSheets() {
        SewsUpTheAfternoon x = anAfternoon();
        x.seam(0, 2, 405);
        row(x, 0, 2, 54, 54, 54, 54, 54, 54, 54, 23, 23);
        due("told as is", x.tells(0, 0), -1);
        due("texts as is", x.tells(0, 1), 1);
        due("kinds as is", x.tells(0, 10), 1);
        due("numbers as is", x.tells(0, 20), 1023);
        // worn 0, 1 at first: 18, 19 behind six days, 21, 22 behind the seventh
        due("worns as is", x.tells(0, 30), 2);
        due("least worn as is", x.tells(0, 40), 0);
        due("firsts as is", x.tells(0, 50), 1 << 4);
        due("text more", read(x, "pulls 2;wears 3;stands 20;"), 1);
        due("texts of two", x.tells(0, 1), 3);
        x.cell(0, 3, 53);
        due("told otherwise", x.tells(0, 0), 3);
        due("texts otherwise", x.tells(0, 1), 0);
        due("kinds otherwise", x.tells(0, 10), 0);
        due("worns otherwise", x.tells(0, 30), 0);
        due("least worn otherwise", x.tells(0, 40), -1);
        due("firsts otherwise", x.tells(0, 50), 0);
        row(x, 1, 0, 54, 23);
        due("told by bytes", x.tells(1, 0), 1);
        due("worns by bytes", x.tells(1, 30), 83);
        due("least worn by bytes", x.tells(1, 40), 17);
        row(x, 1, 2);
        int[] empty = {63, 1023, 100, 0, 65535};
        for (int k = 1; k < 6; k++) {
            due("all of an empty sheet " + k, x.tells(1, 10 * k), empty[k - 1]);
        }
        due("no seam", x.tells(1, 11), -2);
        due("tells 2", x.tells(1, 2), -2);
        due("tells 9", x.tells(1, 9), -2);
        due("tells 60", x.tells(1, 60), -2);
        due("tells -1", x.tells(1, -1), -2);
        due("no sheet", x.tells(4, 0), -2);
        due("sheet -1", x.tells(-1, 0), -2);
        due("a missing sheet", x.tells(2, 0), -11);
        due("bad of a missing sheet", x.tells(2, 60), -2);
        negativeBytes();
        movedFirsts();
        numbersAndTexts();
    }

    /** Rows of bytes and shorts are such as the language has: their lowest bits, with a sign. */
    private static void negativeBytes() {
        SewsUpTheAfternoon x = new SewsUpTheAfternoon();
        x.set(1, 0, -99);
        row(x, 0, 0, -99);
        due("byte below 0", x.tells(0, 0), -1);
        row(x, 0, 0, 256 - 99);
        due("byte above 127", x.tells(0, 0), -1);
        row(x, 0, 1, 65536 - 99);
        due("short above 32767", x.tells(0, 0), -1);
        row(x, 0, 1, 256 - 99);
        due("short is no byte", x.tells(0, 0), 0);
        row(x, 0, 2, 65536 - 99);
        due("int is no short", x.tells(0, 0), 0);
    }

    private static void movedFirsts() {
        SewsUpTheAfternoon x = new SewsUpTheAfternoon();
        x.seam(0, 0, 2);
        // of length 3: in the middle -6, at the rims (0, 13) -3, cut off to 2 and 1: -2, -1
        row(x, 0, 2, -3);
        due("firsts at the rims", x.tells(0, 50), 1 | 1 << 13);
        row(x, 0, 2, -6);
        due("firsts in the middle", x.tells(0, 50), (1 << 13) - 2);
        row(x, 0, 2, -1);
        due("firsts cut off", x.tells(0, 50), 1 << 15);
    }

    private static void numbersAndTexts() {
        SewsUpTheAfternoon x = new SewsUpTheAfternoon();
        x.seam(0, 4, 0);
        x.seam(4, 4, 1515);
        due("text 1", read(x, "pulls 1+(number<4);wears 0;stands 9;"), 1);
        due("text 2", read(x, "pulls 1;wears 0;stands 9;"), 2);
        // 1 by the seam, 1 and 2 and 4 by the darn
        row(x, 0, 1, -8, -8);
        due("texts but by joy", x.tells(0, 1), 7);
        x.force(1);
        due("numbers from 4 on", x.tells(0, 20), 1023 - 15);
        // 3 more than 2 and 2, or 4 more than 1 and 2
        due("number of the darn", x.tells(0, 21), 3 << 3);
        row(x, 0, 1, -9, -9);
        due("numbers below 4", x.tells(0, 20), 15);
        due("numbers of the darn", x.tells(0, 21), 1 << 5);
        due("no texts", x.tells(0, 1), 0);
        x.set(2, 0, 0);
        due("one text", x.tells(0, 1), 2);
    }

    private static void filming() {
        SewsUpTheAfternoon x = anAfternoon();
        x.seam(0, 0, 405);
        due("film", x.film(2, 9), 9);
        due("film is told", x.tells(2, 0), -1);
        row(x, 3, 2, 54, 54, 54, 54, 54, 54, 54, 23, 23);
        due("film is of ints", x.copy(2, 7, 3, 0, 2), 2);
        due("film's numbers", x.tells(3, 0), 0);
        due("film has no tenth", x.cell(2, 9, 0), -12);
        due("film of none", x.film(2, 0), 0);
        due("film of none has no first", x.cell(2, 0, 0), -12);
        due("film of all", x.film(2, 40), 40);
        due("film 41", x.film(2, 41), -2);
        due("film -1", x.film(2, -1), -2);
        due("film of no sheet", x.film(4, 1), -2);
        due("no day truly", x.told(0, 0) + x.told(0, 3), 0);
    }

    private static void drawing() {
        SewsUpTheAfternoon x = new SewsUpTheAfternoon();
        int[] joys = new int[16];
        int z = 1;
        int all = 0;
        for (int h = 0; h < 16; h++) {
            z = z * 1103515245 + 12345;
            joys[h] = (z >>> 9) % 41 - 20;
            all += joys[h];
        }
        due("drawn", x.drawn(1), all);
        due("drawn as the shared test has it", x.drawn(1), 98);
        x.seam(0, 0, 304);
        int with = all - joys[3] - joys[4] - 4;
        due("drawn with a seam", x.drawn(1), with);
        due("joys as they were", x.told(3, 1), 0);
        due("chance of one", x.chance(1, 1, 0), with > all ? 1 : 0);
        due("chance of one, below", x.chance(1, 1, 1), 1);
        chances();
        due("chance of none", x.chance(1, 0, 0), NO);
        due("chance of 21", x.chance(1, 21, 0), NO);
        due("chance part 2", x.chance(1, 1, 2), NO);
        due("chance part -1", x.chance(1, 1, -1), NO);
    }

    /** A seam over all hours makes a day 0: it is more where what is drawn is less than 0 together. */
    private static void chances() {
        SewsUpTheAfternoon none = new SewsUpTheAfternoon();
        SewsUpTheAfternoon x = new SewsUpTheAfternoon();
        x.seam(0, 0, 15);
        int[] seeds = {0, 1, -5, 1000, Integer.MAX_VALUE - 3, Integer.MIN_VALUE};
        for (int seed : seeds) {
            int above = 0;
            for (int m = 1; m <= 20; m++) {
                above += none.drawn(seed + m - 1) < 0 ? 1 : 0;
                int d = 1;
                for (int k = 2; k <= m; k++) {
                    d = above % k == 0 && m % k == 0 ? k : d;
                }
                due("chance by " + seed + " of " + m, x.chance(seed, m, 0), above / d);
                due("chance by " + seed + " of " + m + ", below", x.chance(seed, m, 1), m / d);
            }
        }
        due("as much is not more", none.chance(5, 7, 0), 0);
        due("none above, below", none.chance(5, 7, 1), 1);
    }

    private static void imaging() {
        SewsUpTheAfternoon x = anAfternoon();
        due("back without", x.back(), -3);
        x.seam(1, 4, 203);
        x.set(0, 0, 12);
        x.set(3, 0, 6);
        due("text", read(x, RULE_OF_NUMBERS), 1);
        due("image", x.image(), 1);
        x.set(0, 0, 50);
        x.set(1, 2, 99);
        x.set(2, 0, 9);
        x.set(3, 0, 8);
        x.set(4, 0, 1);
        x.force(1);
        x.seam(0, 0, 0);
        x.feed(112);
        due("text more", read(x, "ulls 1;wears 1;stands 1;"), 2);
        x.feed(112);
        x.film(1, 3);
        due("back", x.back(), 1);
        int[] kept = {12, -3, 4, 6, 0, 1, 2, 3};
        for (int what = 0; what < kept.length; what++) {
            due("back told " + what, x.told(what == 1 ? 2 : 0, what), kept[what]);
        }
        due("back the rule", x.count(5), 0);
        due("back seams", x.count(0), 1);
        due("back texts stay", x.count(3), 3);
        due("back tape stays", x.count(4), 1);
        due("back sheets stay", x.cell(1, 2, 0), 1);
        x.seam(5, 1, 1111);
        x.set(3, 1, 44);
        x.set(4, 1, 1);
        x.set(3, 0, 77);
        due("back once more", x.back(), 1);
        due("worn once more", x.told(0, 3), 6);
        due("seam gone", x.told(1, 5), -1000);
        due("seam anew", x.seam(0, 3, 909), 1);
        due("seam anew is not worn", x.told(1, 3), 0);
        due("seam anew is not burst", x.told(1, 4), 0);
        due("image anew", x.image(), 2);
        due("back anew", x.back(), 2);
    }

    private static void counting() {
        SewsUpTheAfternoon x = new SewsUpTheAfternoon();
        x.seam(0, 0, 103);
        x.seam(0, 0, 304);
        x.seam(0, 0, 9);
        x.set(4, 2, 1);
        read(x, RULE_OF_NUMBERS);
        x.force(1);
        x.feed(7);
        x.feed(8);
        int[] want = {3, 1, 12, 2, 2, 1};
        for (int what = 0; what < 6; what++) {
            due("count " + what, x.count(what), want[what]);
        }
        due("count 6", x.count(6), -2);
        due("count -1", x.count(-1), -2);
    }

    private static void sheets() {
        SewsUpTheAfternoon x = new SewsUpTheAfternoon();
        for (int sort = 0; sort < 3; sort++) {
            due("sheet of 40", x.sheet(3, sort, 40), 1);
            due("cell 39", x.cell(3, 39, 5), 1);
            due("cell 40", x.cell(3, 40, 5), -12);
            due("cell -1", x.cell(3, -1, 5), -12);
        }
        due("sheet anew is all 0", x.sheet(3, 2, 1) + x.tells(3, 0), 0);
        due("sheet of 0", x.sheet(0, 0, 0), 1);
        due("cell 0 of 0", x.cell(0, 0, 0), -12);
        due("sheet of 41", x.sheet(0, 0, 41), -2);
        due("sheet below 0", x.sheet(0, 0, -1), -14);
        due("sheet of sort 3", x.sheet(0, 3, -1), -2);
        due("sheet of sort -2", x.sheet(0, -2, 1), -2);
        due("sheet 4", x.sheet(4, 0, -1), -2);
        due("sheet -1", x.sheet(-1, 0, 1), -2);
        due("missing, of any n", x.sheet(3, -1, 99), 1);
        due("missing, of n below 0", x.sheet(3, -1, -99), 1);
        due("cell of missing", x.cell(3, 99, 0), -11);
        due("cell of no sheet", x.cell(4, 0, 0), -2);
        due("missing has no bytes", x.tells(3, 0), -11);
    }

    private static void copying() {
        SewsUpTheAfternoon x = new SewsUpTheAfternoon();
        x.set(1, 0, 3);
        row(x, 0, 1, 1, 2, 3, 4);
        row(x, 1, 1, 9, 9);
        row(x, 2, 2, 9, 9);
        due("copy", x.copy(0, 2, 1, 0, 2), 2);
        due("copied the first", x.tells(1, 0), 1);
        x.cell(1, 1, 3);
        due("the first is 3", x.tells(1, 0), -1);
        due("copy on itself", x.copy(0, 0, 0, 1, 3), 3);
        due("copy back", x.copy(0, 3, 1, 0, 1), 1);
        due("as they were", x.tells(1, 0), -1);
        due("copy none at the end", x.copy(0, 4, 1, 2, 0), 0);
        int[][] out = {{-1, 0, 1}, {0, -1, 1}, {0, 0, -1}, {3, 0, 2}, {0, 1, 2}, {0, 0, 3}, {5, 0, 0},
            {Integer.MAX_VALUE, 0, 2}, {1, 0, Integer.MAX_VALUE}, {0, 0, Integer.MIN_VALUE}};
        for (int[] o : out) {
            due("copy outside", x.copy(0, o[0], 1, o[1], o[2]), -12);
        }
        due("copy of unlike sorts", x.copy(0, 0, 2, 0, -1), -13);
        due("copy of missing", x.copy(3, 0, 0, 0, 1), -11);
        due("copy to missing", x.copy(0, 0, 3, 0, 1), -11);
        due("copy of no sheet", x.copy(4, 0, 3, 0, 1), -2);
        due("copy to no sheet", x.copy(3, 0, -1, 0, 1), -2);
    }

    private static void seamsBySheet() {
        SewsUpTheAfternoon x = new SewsUpTheAfternoon();
        row(x, 0, 1, 7, 1, 2, 315, 6, 0, 0, 0, 0, 15, 5, 9, 1515, 3);
        due("seams", x.seams(0, 1, 1, 2), 1);
        due("came", x.told(0, 5) * 100 + x.told(0, 2) * 10 + x.told(0, 6), 123);
        due("seams that end outside", x.seams(0, 1, 10, 2), -12);
        due("what stood ahead came", x.count(0), 2);
        due("came to", x.told(1, 5) * 100 + x.told(1, 2) * 10 + x.told(1, 7), 605);
        due("none of none", x.seams(0, 1, 99, 0), 0);
        due("from -1", x.seams(0, 1, -1, 1), -12);
        due("from far", x.seams(0, 1, Integer.MAX_VALUE, 6), -12);
        due("n 7", x.seams(0, 1, 0, 7), -2);
        due("n -1", x.seams(0, 1, 0, -1), -2);
        due("sort 3", x.seams(0, 3, 0, 1), -2);
        due("sort -1", x.seams(0, -1, 0, 1), -2);
        due("no sheet", x.seams(4, 1, 0, 1), -2);
        due("other sort", x.seams(0, 2, -1, 1), -13);
        due("missing", x.seams(1, 2, -1, 1), -11);
        row(x, 2, 2, new int[18]);
        due("no more than six", x.seams(2, 2, 0, 6), 4);
        due("six", x.count(0), 6);
        due("full", x.seams(2, 2, 0, 6), 0);
        due("full and outside", x.seams(2, 2, 3, 6), -12);
    }

    private static void takenFor() {
        int[] under = {1, 1 | 2, 1 | 4, 1 | 2 | 8, 1 | 4 | 16, 1 | 32};
        SewsUpTheAfternoon x = new SewsUpTheAfternoon();
        for (int kind = 0; kind < 6; kind++) {
            due("seam", x.seam(kind, kind + 3, 0), kind);
            for (int k = 0; k < 6; k++) {
                due("taken " + kind + " for " + k, x.taken(kind, k), (under[kind] >> k & 1) == 1 ? kind + 3 : -13);
            }
        }
        due("taken for 6", x.taken(9, 6), -2);
        due("taken for -1", x.taken(0, -1), -2);
        due("taken of none", x.taken(6, 0), -11);
        due("taken of -1", x.taken(-1, 5), -11);
    }
}
