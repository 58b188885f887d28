import java.util.List;

/** The edges of the tape and the texts (promises 5 to 7), a test for each sentence that names one. */
public final class TextBoundsTest extends Checks {
    private static final String TAIL = ";wears 1;stands 1;";
    private static final String[] TOKENS = {"pulls", "wears", "stands", "or", "and", "not", "length", "worn", "number", "joy",
        "day", "seams", "7", "(", ")", ";", "+", "-", "*", "<", "="};
    private static final String ONES = " length worn number joy day seams 7 ( - ";
    private static final String BEGINS = ONES + "not ";

    public static void main(String[] args) {
        bytesAre0To255();
        theTapeHas160Bytes();
        theTapeIsEmptyThen();
        fullIsAheadOfAllOfText();
        aFaultTakesNoRoom();
        aFaultLeavesNothing();
        aTextOfNoByte();
        aTextOf160Bytes();
        whichTokenMayStandWhere();
        bytesThatBeginNone();
        blanksAre32And10();
        tokensAsLongAsCanBe();
        wordsThatAreNone();
        numbersOf4DigitsAtMost();
        fiveMayBeOpen();
        whatIsOpenEnds();
        theFirstFaultCounts();
        orAndNotAre1Or0();
        whatBindsMore();
        sumsWrap();
        productsWrap();
        negationsWrap();
        comparisonsAreOfInts();
        namesAtTheirLeastAndMost();
        joyIsOfTheHourPulledAt();
        seamsAreThoseNotBurst();
        sixTexts();
        end();
    }

    // ---- promise 5

    private static void bytesAre0To255() {
        int[] none = {-1, 256, 300, LEAST, MOST, -256, 112 + 256};
        int[] some = {0, 1, 127, 128, 254, 255};
        SewsUpTheAfternoon x = new SewsUpTheAfternoon();
        for (int letter : none) {
            due("feed " + letter, x.feed(letter), BAD);
        }
        due("no byte", x.count(4), 0);
        for (int i = 0; i < some.length; i++) {
            due("feed " + some[i], x.feed(some[i]), i + 1);
        }
    }

    private static void theTapeHas160Bytes() {
        SewsUpTheAfternoon x = new SewsUpTheAfternoon();
        for (int i = 1; i <= 160; i++) {
            due("byte " + i, x.feed(32), i);
        }
        due("byte 161", x.feed(32), FULL);
        due("bad is ahead of full", x.feed(256), BAD);
        due("bad is ahead of full, below", x.feed(-1), BAD);
        due("160 bytes", x.count(4), 160);
        due("it ends too early at 160", x.text(), -260);
    }

    private static void theTapeIsEmptyThen() {
        SewsUpTheAfternoon x = new SewsUpTheAfternoon();
        due("text", read(x, "pulls 1" + TAIL), 1);
        due("empty behind a text", x.count(4), 0);
        due("a byte behind a text", x.feed(';'), 1);
        due("fault", x.text(), -100);
        due("empty behind a fault", x.count(4), 0);
        due("a byte behind a fault", x.feed('p'), 1);
        due("text of what came behind a fault", read(x, "ulls 1" + TAIL), 2);
        due("text of no byte behind a text", x.text(), -100);
    }

    // ---- promise 6

    private static void fullIsAheadOfAllOfText() {
        SewsUpTheAfternoon x = new SewsUpTheAfternoon();
        for (int t = 1; t < 6; t++) {
            due("text " + t, read(x, "pulls 1" + TAIL), t);
        }
        due("full is ahead of an empty tape", x.text(), FULL);
        feed(x, "?");
        due("full is ahead of a fault", x.text(), FULL);
        due("the tape stays", x.count(4), 1);
        feed(x, "pulls 1" + TAIL);
        int bytes = x.count(4);
        due("full of a text", x.text(), FULL);
        due("the tape stays yet", x.count(4), bytes);
        due("a byte more", x.feed(32), bytes + 1);
        due("six texts", x.count(3), 6);
    }

    private static void aFaultTakesNoRoom() {
        SewsUpTheAfternoon x = new SewsUpTheAfternoon();
        for (int t = 1; t < 6; t++) {
            due("fault ahead of text " + t, read(x, "pulls 1;;"), -108);
            due("texts", x.count(3), t);
            due("text " + t, read(x, "pulls 1" + TAIL), t);
        }
    }

    private static void aFaultLeavesNothing() {
        SewsUpTheAfternoon x = new SewsUpTheAfternoon();
        String most = "pulls 1" + "+1".repeat(40) + ";wears 1" + "+1".repeat(20) + ";";
        for (int round = 0; round < 2; round++) {
            due("a long fault", read(x, most), -100 - most.length());
        }
        due("text behind it", read(x, "pulls joy+4;wears 2+(3-1)*9;stands 7 or day;"), 1);
        x.force(1);
        x.seam(0, 0, 0);
        due("pulls behind it", x.told(1, 12), 4);
        due("wears behind it", x.told(0, 8), 20);
        due("stands behind it", x.told(0, 9), 1);
    }

    private static void fault(String text, int place) {
        SewsUpTheAfternoon x = new SewsUpTheAfternoon();
        due("text of \"" + text + "\"", read(x, text), -100 - place);
        due("texts behind \"" + text + "\"", x.count(3), 1);
    }

    private static void stands(String text) {
        due("text of \"" + text + "\"", read(new SewsUpTheAfternoon(), text), 1);
    }

    private static void aTextOfNoByte() {
        fault("", 0);
        fault(" ", 1);
        fault("\n\n\n", 3);
    }

    private static void aTextOf160Bytes() {
        String text = "pulls 1" + TAIL;
        stands(text + " ".repeat(160 - text.length()));
        stands(" ".repeat(160 - text.length()) + text);
        fault("pulls " + " ".repeat(154), 160);
        fault(text + " ".repeat(159 - text.length()) + ";", 159);
        fault("pulls 1" + "+1".repeat(76) + "+", 160);
        fault(";".repeat(160), 0);
        fault("pulls 1" + ";".repeat(153), 8);
        String ones = "1" + "+1".repeat((160 - text.length()) / 2);
        SewsUpTheAfternoon x = by("pulls " + ones + TAIL);
        x.seam(0, 0, 0);
        due("sum of " + ones.length() + " bytes", x.told(1, 12), (ones.length() + 1) / 2);
        // what comes behind the 160th byte is not there
        SewsUpTheAfternoon y = new SewsUpTheAfternoon();
        feed(y, text + " ".repeat(160 - text.length()));
        due("byte 161", y.feed('?'), FULL);
        due("text without byte 161", y.text(), 1);
    }

    /** What stands ahead, and which tokens may come behind it. Where one may, the text then ends too early. */
    private static void whichTokenMayStandWhere() {
        String[][] places = {
            {"", "pulls "},
            {"pulls", BEGINS},
            {"pulls not", BEGINS},
            {"pulls not not", BEGINS},
            {"pulls (", BEGINS},
            {"pulls -(", BEGINS},
            {"pulls 1 or", BEGINS},
            {"pulls 1 and", BEGINS},
            {"pulls 1<2 and", BEGINS},
            {"pulls -", ONES},
            {"pulls - -", ONES},
            {"pulls 1 +", ONES},
            {"pulls 1 -", ONES},
            {"pulls 1 *", ONES},
            {"pulls 1 <", ONES},
            {"pulls 1 =", ONES},
            {"pulls not -", ONES},
            {"pulls not 1 <", ONES},
            {"pulls 1", " ; or and + - * < = "},
            {"pulls length", " ; or and + - * < = "},
            {"pulls - 1", " ; or and + - * < = "},
            {"pulls ( 1 )", " ; or and + - * < = "},
            {"pulls not 1", " ; or and + - * < = "},
            {"pulls 1 * 1", " ; or and + - * < = "},
            {"pulls 1 < 2 or 1", " ; or and + - * < = "},
            {"pulls 1 = 2 and 1", " ; or and + - * < = "},
            {"pulls ( 1 < 2 )", " ; or and + - * < = "},
            {"pulls 1 < 2", " ; or and + - * "},
            {"pulls 1 = 2", " ; or and + - * "},
            {"pulls not 1 < 2", " ; or and + - * "},
            {"pulls 1 < ( 1 < 2 )", " ; or and + - * "},
            {"pulls ( 1", " ) or and + - * < = "},
            {"pulls ( 1 < 2", " ) or and + - * "},
            {"pulls - ( ( 1 )", " ) or and + - * < = "},
            {"pulls 1 ;", "wears "},
            {"pulls 1 ; wears", BEGINS},
            {"pulls 1 ; wears 1", " ; or and + - * < = "},
            {"pulls 1 ; wears 1 ;", "stands "},
            {"pulls 1 ; wears 1 ; stands", BEGINS},
            {"pulls 1 ; wears 1 ; stands 1", " or and + - * < = "},
            {"pulls 1 ; wears 1 ; stands 1 ;", ""}};
        for (String[] place : places) {
            for (String token : TOKENS) {
                String text = (place[0] + " " + token).trim();
                boolean may = (" " + place[1]).contains(" " + token + " ");
                boolean whole = token.equals(";") && place[0].endsWith("stands 1");
                if (whole) {
                    stands(text);
                } else {
                    fault(text, may ? text.length() : text.length() - token.length());
                }
            }
            if (!place[0].endsWith("stands 1 ;")) {
                fault(place[0], place[0].length());
                fault(place[0] + " \n", place[0].length() + 2);
            }
        }
    }

    private static void bytesThatBeginNone() {
        for (int b = 0; b < 256; b++) {
            char c = (char) b;
            boolean digit = c >= '0' && c <= '9';
            boolean blank = b == 32 || b == 10;
            if (digit || blank || c == '-') {
                stands("pulls " + c + "1" + TAIL);
            } else {
                // a ( stands there, but not the ; behind it
                fault("pulls " + c + " 1" + TAIL, c == '(' ? 9 : 6);
            }
            if (digit || blank) {
                stands("pulls 1" + c + TAIL);
            } else {
                // a sign stands there, but not the ; behind it
                fault("pulls 1" + c + TAIL, "+-*<=;".indexOf(c) >= 0 ? 8 : 7);
            }
        }
    }

    private static void blanksAre32And10() {
        stands("\n pulls\n1 ;\n\nwears  1;stands\n1\n;\n \n");
        int[] none = {0, 9, 11, 12, 13, 160};
        for (int b : none) {
            fault((char) b + "pulls 1" + TAIL, 0);
            fault("pulls 1" + TAIL + (char) b, 25);
        }
        // a blank parts a word, a number
        fault("pul ls 1" + TAIL, 0);
        fault("pulls 1 2" + TAIL, 8);
        fault("pulls len\ngth" + TAIL, 6);
    }

    private static void tokensAsLongAsCanBe() {
        stands("pulls(1)or not(0)and 1<2;wears-1;stands 1;");
        fault("pullsnot 1" + TAIL, 0);
        fault("pulls notnot 1" + TAIL, 6);
        fault("pulls notlength" + TAIL, 6);
        fault("pulls 1 orlength" + TAIL, 8);
        stands("pulls 1or 1and not 1" + TAIL);
        stands("pulls 1or length and(1)or(1)" + TAIL);
        fault("pulls length1" + TAIL, 12);
        fault("pulls 1length" + TAIL, 7);
        fault("pulls 1 or1length" + TAIL, 11);
        stands("pulls 1 or1" + TAIL);
    }

    private static void wordsThatAreNone() {
        List<String> names = List.of("length", "worn", "number", "joy", "day", "seams");
        for (String name : names) {
            stands("pulls " + name + TAIL);
            fault("pulls " + name.substring(1) + TAIL, 6);
            fault("pulls " + name.substring(0, name.length() - 1) + TAIL, 6);
            fault("pulls " + name + "s" + TAIL, 6);
            fault("pulls a" + name + TAIL, 6);
            fault("pulls a" + name.substring(1) + TAIL, 6);
            fault("pulls " + name.substring(0, name.length() - 1) + "a" + TAIL, 6);
            fault("pulls " + name.toUpperCase() + TAIL, 6);
            fault("pulls 1 " + name + TAIL, 8);
        }
        String[] keys = {"pull", "qulls", "pullss", "pulla", "wears", "w", "and", "z"};
        for (String key : keys) {
            fault(key + " 1" + TAIL, 0);
        }
        String[] joins = {"o", "ors", "oa", "an", "ands", "anz", "ar", "end", "xor", "no", "nor", "b"};
        for (String join : joins) {
            fault("pulls 1 " + join + " 1" + TAIL, 8);
        }
        fault("pulls 1;wear 1;stands 1;", 8);
        fault("pulls 1;wears 1;stand 1;", 16);
        fault("pulls no 1" + TAIL, 6);
        fault("pulls nott 1" + TAIL, 6);
        fault("pulls lot 1" + TAIL, 6);
    }

    private static void numbersOf4DigitsAtMost() {
        String[] some = {"0", "9", "10", "99", "100", "999", "1000", "9999", "0000", "0001"};
        for (String number : some) {
            value(number, Math.min(999, Integer.parseInt(number)));
        }
        value("9999-9000", 999);
        value("9999-9001", 998);
        String[] none = {"10000", "99999", "00000", "00001", "123456", "0".repeat(100)};
        for (String number : none) {
            fault("pulls " + number + TAIL, 6);
            fault("pulls 1+" + number + TAIL, 8);
            fault("pulls " + number, 6);
        }
        fault("pulls 1 00000" + TAIL, 8);
        fault("00000", 0);
    }

    // ---- what may be open

    /** Puts each run of so many of ( , not , - ahead; a not does not stand behind a -. */
    private static void openings(String ahead, int more) {
        if (more > 0) {
            openings(ahead + "(", more - 1);
            openings(ahead + "-", more - 1);
            if (!ahead.endsWith("-")) {
                openings(ahead + " not ", more - 1);
            }
            return;
        }
        int size = ahead.length();
        fault(ahead + "1", size + 1);
        fault(ahead + "joy", size + 3);
        fault(ahead + "(", size);
        fault(ahead + "(1)", size);
        fault(ahead + "-1", size);
        fault(ahead + "not 1", size);
    }

    private static void fiveMayBeOpen() {
        openings("pulls ", 5);
        String[] four = {"((((", "----", "not not not not ", "-(-(", "not(not(", "(-((", "not-(-"};
        for (String ahead : four) {
            String text = "pulls " + ahead;
            fault(text + "(", text.length() + 1);
            fault(text + "-", text.length() + 1);
        }
        stands("pulls (((((1)))))" + TAIL);
        stands("pulls -----1" + TAIL);
        stands("pulls not not not not not 1" + TAIL);
        stands("pulls not(-(-1))" + TAIL);
        fault("pulls ((((((1))))))" + TAIL, 11);
        fault("pulls ------1" + TAIL, 11);
        fault("pulls not not not not not not 1" + TAIL, 26);
    }

    /** What is open ends with what it belongs to: behind it as many may be open again. */
    private static void whatIsOpenEnds() {
        stands("pulls (((((1)))))+(((((2)))))" + TAIL);
        stands("pulls ((((1)+(2)))*((3)))" + TAIL);
        stands("pulls -----1*-----1+-----1--1" + TAIL);
        stands("pulls -----1<-----1" + TAIL);
        stands("pulls -(-(-1))+-(-(-1))" + TAIL);
        stands("pulls not not not not not 1 and not not not not not 1 or(((((1)))))" + TAIL);
        stands("pulls (((((1)))));wears (((((1)))));stands not not not not not 1;");
        // a not is open till its NOT ends: over a sign, and over < and its sum, but not over and
        String nots = "pulls not not not not not 1";
        fault(nots + "+(1)" + TAIL, nots.length() + 1);
        fault(nots + "<(1)" + TAIL, nots.length() + 1);
        fault(nots + "*-1" + TAIL, nots.length() + 1);
        fault(nots + "<1+(1)" + TAIL, nots.length() + 3);
        stands(nots + "<1 and(1)" + TAIL);
        stands(nots + "-1" + TAIL);
        // a ( is open till its )
        fault("pulls ((((1+(-1))))" + TAIL, 13);
        fault("pulls (((((1)+(1)+((1", 19);
        stands("pulls (((((1)+(1))))+-1)" + TAIL);
        // a - ahead of a sum is the sign of two, and opens nothing
        stands("pulls (((((1-1)))))" + TAIL);
        fault("pulls (((((1--1)))))" + TAIL, 13);
    }

    private static void theFirstFaultCounts() {
        fault("pulls ? 12345 nope", 6);
        fault("pulls 12345 ?", 6);
        fault("pulls nope ?", 6);
        fault("pulls 1 1 ?", 8);
        fault("pulls ) ?", 6);
        fault("wears ?", 0);
        fault("pulls 1;wears ;stands ?", 14);
        fault("pulls 1" + TAIL + "pulls ?", 25);
        fault("pulls ((((((?", 11);
    }

    // ---- what a text tells

    private static void value(String e, int want) {
        SewsUpTheAfternoon x = by("pulls 0;wears 0;stands " + e + ";");
        x.seam(0, 0, 0);
        due("stands " + e, x.told(0, 9), want);
    }

    private static void orAndNotAre1Or0() {
        value("5 or 7", 1);
        value("0 or 7", 1);
        value("7 or 0", 1);
        value("0 or 0", 0);
        value("5 and 7", 1);
        value("0 and 7", 0);
        value("7 and 0", 0);
        value("2 and 1", 1);
        value("-1 and -1", 1);
        value("-1 or 0", 1);
        value("not -1", 0);
        value("not 2", 0);
        value("not 1", 0);
        value("not 0", 1);
        value("not not 5", 1);
        value("(not 0)+5", 6);
        value("(3 or 4)+(3 and 4)", 2);
        value("4<5", 1);
        value("5<5", 0);
        value("5<4", 0);
        value("5=5", 1);
        value("4=5", 0);
    }

    private static void whatBindsMore() {
        value("1 or 1 and 0", 1);
        value("0 and 1 or 1", 1);
        value("0 and (1 or 1)", 0);
        value("not 1 or 1", 1);
        value("not (1 or 1)", 0);
        value("not 1 and 0", 0);
        value("not 0 and 0", 0);
        value("not 5 = 0", 1);
        value("(not 5) = 0", 1);
        value("(not 5) = 1", 0);
        value("not 5 = 5", 0);
        value("not 1 + 1", 0);
        value("1 + 1 < 3", 1);
        value("2 < 1 + 2", 1);
        value("3 = 1 + 2 and 7", 1);
        value("2 + 3 * 4 - 5", 9);
        value("2 * 3 + 4 * 5", 26);
        value("100 - 10 - 1", 89);
        value("100 - 10 + 1", 91);
        value("2 * 3 * 4", 24);
        value("-2 + 5", 3);
        value("-2 * -3", 6);
        value("7 - -2", 9);
        value("-(2 - 5)", 3);
        value("(1 < 2) + (2 < 1)", 1);
    }

    private static void sumsWrap() {
        // 8192 * 8192 * 32 is the least int, one less the most
        value("8192*8192*32-1<0", 0);
        value("8192*8192*32<0", 1);
        value("8192*8192*32-1+1<0", 1);
        value("8192*8192*32-1+1=8192*8192*32", 1);
        value("8192*8192*32+8192*8192*32+7", 7);
        value("9999*9999*21<0", 0);
        value("9999*9999*21+9999*9999<0", 1);
        value("0-9999*9999*21<0", 1);
        value("0-9999*9999*21-9999*9999<0", 0);
    }

    private static void productsWrap() {
        value("8192*8192*64", 0);
        value("8192*8192*64+5", 5);
        value("9999*9999*21<0", 0);
        value("9999*9999*22<0", 1);
        value("9999*9999*9999=9999*9999*9999", 1);
        // 9999 three times is 999700029999, less 233 times 2 ** 32: -1027349969
        value("9999*9999*9999<0", 1);
        value("0-9999*9999*9999-9999*9999*10-9999*2755-2000", 714);
    }

    private static void negationsWrap() {
        value("-(8192*8192*32)<0", 1);
        value("-(8192*8192*32)=8192*8192*32", 1);
        value("-(8192*8192*32-1)<0", 1);
        value("-(8192*8192*32-1)=8192*8192*32+1", 1);
        value("--(8192*8192*32)<0", 1);
        value("-0=0", 1);
    }

    private static void comparisonsAreOfInts() {
        value("8192*8192*32<8192*8192*32-1", 1);
        value("8192*8192*32-1<8192*8192*32", 0);
        value("8192*8192*32=8192*8192*32-1", 0);
        value("8192*8192*32 or 0", 1);
        value("not 8192*8192*32", 0);
        value("8192*8192*64 or 0", 0);
        value("not 8192*8192*64", 1);
        value("-9999<9999", 1);
        value("-9999<-9999", 0);
    }

    private static void namesAtTheirLeastAndMost() {
        SewsUpTheAfternoon x = by("pulls 0;wears number;stands length;");
        x.seam(0, 0, 0);
        x.seam(0, 9, 15);
        due("least length", x.told(0, 9), 1);
        due("most length", x.told(1, 9), 16);
        due("least number", x.told(0, 8), 0);
        due("most number", x.told(1, 8), 9);
        SewsUpTheAfternoon y = by("pulls 0;wears (worn=0)+2*(worn=9999);stands worn-9000;");
        y.seam(0, 0, 0);
        due("least worn", y.told(0, 8), 1);
        due("least worn, stands", y.told(0, 9), 0);
        y.set(3, 0, 9999);
        due("most worn", y.told(0, 8), 2);
        due("most worn, stands", y.told(0, 9), 999);
        SewsUpTheAfternoon z = by("pulls day;wears day-900;stands day;");
        z.seam(0, 0, 0);
        due("day 0", z.told(1, 12) + z.told(0, 8) + z.told(0, 9), 0);
        z.set(0, 0, 999);
        due("day 999, pulls", z.told(1, 12), 99);
        due("day 999, wears", z.told(0, 8), 99);
        due("day 999, stands", z.told(0, 9), 999);
    }

    private static void joyIsOfTheHourPulledAt() {
        SewsUpTheAfternoon x = by("pulls joy;wears 50+joy;stands 500+joy;");
        x.seam(0, 0, 407);
        x.set(1, 3, 99);
        x.set(1, 8, -99);
        x.set(1, 4, 44);
        due("joy ahead", x.told(3, 12), 99);
        due("joy behind", x.told(8, 12), 0);
        due("no joy of wears", x.told(0, 8), 50);
        due("no joy of stands", x.told(0, 9), 500);
        x.set(1, 8, 7);
        due("another joy behind", x.told(8, 12), 7);
        SewsUpTheAfternoon y = by("pulls 0-joy;wears 1;stands 1;");
        y.seam(0, 0, 407);
        y.set(1, 3, -99);
        due("least joy", y.told(3, 12), 99);
        // pulled over what is gone: the joy is of the hour, not of the seam's neighbour
        y.set(1, 2, -5);
        y.seam(0, 0, 303);
        due("joy past what is gone", y.told(2, 12), 10);
    }

    private static void seamsAreThoseNotBurst() {
        SewsUpTheAfternoon x = by("pulls seams;wears seams;stands seams;");
        for (int s = 0; s < 6; s++) {
            x.seam(0, 0, 202);
            due("seams of " + (s + 1), x.told(0, 9), s + 1);
            due("pulled by " + (s + 1), x.told(1, 12), (s + 1) * (s + 1));
        }
        for (int s = 0; s < 6; s++) {
            x.set(4, s, 1);
            due("wears by " + (5 - s), x.told(0, 8), 5 - s);
            due("stands by " + (5 - s), x.told(5, 9), 5 - s);
        }
    }

    // ---- promise 7

    private static void sixTexts() {
        SewsUpTheAfternoon x = new SewsUpTheAfternoon();
        x.seam(0, 0, 0);
        for (int t = 1; t < 6; t++) {
            due("no text " + t + " yet", x.force(t), BAD);
            due("text " + t, read(x, "pulls 10*" + t + TAIL), t);
            due("a text is no rule yet", x.count(5), t - 1);
            due("force " + t, x.force(t), t - 1);
            due("pulls by " + t, x.told(1, 12), 10 * t);
            due("texts", x.count(3), t + 1);
        }
        int[] none = {-1, 6, LEAST, MOST};
        for (int t : none) {
            due("force " + t, x.force(t), BAD);
        }
        due("the rule yet", x.count(5), 5);
        due("force the same", x.force(5), 5);
        due("force 0", x.force(0), 5);
        due("pulls by 0", x.told(1, 12), 1);
        due("stands by 0", x.told(0, 9), 20);
        due("force 0 again", x.force(0), 0);
        due("force 1", x.force(1), 0);
        due("pulls by 1", x.told(1, 12), 10);
    }
}
