/** The edges of the host's calls (promises 22 to 26), a test for each sentence that names one. */
public final class HostBoundsTest extends Checks {
    private static final int BYTES = 0, SHORTS = 1, INTS = 2;

    public static void main(String[] args) {
        sheetsAre0To3();
        sortsAreMinus1To2();
        sheetsHave0To40Numbers();
        refusalsOfSheetInOrder();
        aMissingSheetOfAnySize();
        aSheetIsAll0();
        cellsAreInside();
        refusalsOfCellInOrder();
        cellsOfBytes();
        cellsOfShorts();
        cellsOfInts();
        copyOfAll();
        copyOfNone();
        copyOutside();
        copyAsTheyWere();
        copyOfEachSort();
        refusalsOfCopyInOrder();
        seamsAreOf0To6();
        seamsFromOneOn();
        seamsThatAreLeftOut();
        seamsOutside();
        seamsByEachSort();
        seamsOfNone();
        refusalsOfSeamsInOrder();
        takenForAllKinds();
        refusalsOfTakenInOrder();
        end();
    }

    /** Whether item i of a sheet of ints, shorts or bytes is v (of -99 .. 99), by a day of no seams. */
    private static void item(SewsUpTheAfternoon x, int sheet, int sort, int i, int v) {
        int scratch = sheet == 3 ? 2 : 3;
        x.set(1, 0, v);
        x.sheet(scratch, sort, 1);
        due("copy of item " + i, x.copy(sheet, i, scratch, 0, 1), 1);
        due("item " + i + " is " + v, x.tells(scratch, 0), NONE);
    }

    private static void items(SewsUpTheAfternoon x, int sheet, int sort, int... all) {
        for (int i = 0; i < all.length; i++) {
            item(x, sheet, sort, i, all[i]);
        }
        due("no item more", x.cell(sheet, all.length, 0), OUTSIDE);
    }

    // ---- promise 22

    private static void sheetsAre0To3() {
        SewsUpTheAfternoon x = new SewsUpTheAfternoon();
        int[] none = {LEAST, -1, 4, MOST};
        for (int s : none) {
            due("sheet " + s, x.sheet(s, BYTES, 1), BAD);
            due("sheet " + s + ", missing", x.sheet(s, -1, 1), BAD);
        }
        for (int s = 0; s < 4; s++) {
            due("missing at first", x.cell(s, 0, 0), NOTHING);
            due("sheet " + s, x.sheet(s, BYTES, 1), 1);
            due("there now", x.cell(s, 0, 0), 1);
        }
    }

    private static void sortsAreMinus1To2() {
        SewsUpTheAfternoon x = new SewsUpTheAfternoon();
        int[] none = {LEAST, -2, 3, MOST};
        for (int sort : none) {
            due("sheet of sort " + sort, x.sheet(0, sort, 1), BAD);
            due("missing yet", x.cell(0, 0, 0), NOTHING);
        }
        for (int sort = 0; sort < 3; sort++) {
            due("sheet of sort " + sort, x.sheet(0, sort, 3), 1);
            for (int other = 0; other < 3; other++) {
                due("sort " + sort + " for " + other, x.seams(0, other, 0, 1), other == sort ? 1 : UNLIKE);
            }
        }
    }

    private static void sheetsHave0To40Numbers() {
        SewsUpTheAfternoon x = new SewsUpTheAfternoon();
        for (int sort = 0; sort < 3; sort++) {
            due("of 40", x.sheet(0, sort, 40), 1);
            due("item 39", x.cell(0, 39, 1), 1);
            due("item 40", x.cell(0, 40, 1), OUTSIDE);
            due("of 41", x.sheet(0, sort, 41), BAD);
            due("of the most int", x.sheet(0, sort, MOST), BAD);
            due("of -1", x.sheet(0, sort, -1), BELOW);
            due("of the least int", x.sheet(0, sort, LEAST), BELOW);
            due("of 40 yet", x.cell(0, 39, 1), 1);
            due("of 1", x.sheet(0, sort, 1), 1);
            due("item 0", x.cell(0, 0, 1), 1);
            due("item 1", x.cell(0, 1, 1), OUTSIDE);
            due("of 0", x.sheet(0, sort, 0), 1);
            due("no item 0", x.cell(0, 0, 1), OUTSIDE);
        }
    }

    private static void refusalsOfSheetInOrder() {
        SewsUpTheAfternoon x = new SewsUpTheAfternoon();
        due("no sheet ahead of a size below 0", x.sheet(4, BYTES, -1), BAD);
        due("no sort ahead of a size below 0", x.sheet(0, 3, -1), BAD);
        due("no sort ahead of a size below 0", x.sheet(0, -2, -1), BAD);
    }

    private static void aMissingSheetOfAnySize() {
        int[] sizes = {LEAST, -1, 0, 40, 41, MOST};
        for (int n : sizes) {
            SewsUpTheAfternoon x = new SewsUpTheAfternoon();
            x.sheet(2, INTS, 3);
            due("missing, of " + n, x.sheet(2, -1, n), 1);
            due("it is missing", x.cell(2, 0, 0), NOTHING);
            due("missing again", x.sheet(2, -1, n), 1);
        }
    }

    private static void aSheetIsAll0() {
        for (int sort = 0; sort < 3; sort++) {
            SewsUpTheAfternoon x = new SewsUpTheAfternoon();
            row(x, 0, sort, 5, 6, 7);
            due("sheet anew", x.sheet(0, sort, 4), 1);
            items(x, 0, sort, 0, 0, 0, 0);
            row(x, 0, sort, 5, 6, 7);
            x.sheet(0, -1, 0);
            due("sheet behind missing", x.sheet(0, sort, 3), 1);
            items(x, 0, sort, 0, 0, 0);
            row(x, 0, sort, 5, 6, 7);
            due("sheet of another sort", x.sheet(0, (sort + 1) % 3, 3), 1);
            items(x, 0, (sort + 1) % 3, 0, 0, 0);
            row(x, 0, sort, 5, 6, 7);
            x.sheet(0, sort, 1);
            x.sheet(0, sort, 3);
            items(x, 0, sort, 0, 0, 0);
        }
    }

    // ---- promise 23

    private static void cellsAreInside() {
        SewsUpTheAfternoon x = new SewsUpTheAfternoon();
        x.sheet(0, INTS, 5);
        int[] places = {LEAST, -1, 0, 4, 5, 39, 40, MOST};
        for (int i : places) {
            due("cell " + i + " of 5", x.cell(0, i, 9), i == 0 || i == 4 ? 1 : OUTSIDE);
        }
        items(x, 0, INTS, 9, 0, 0, 0, 9);
    }

    private static void refusalsOfCellInOrder() {
        SewsUpTheAfternoon x = new SewsUpTheAfternoon();
        due("no sheet", x.cell(-1, -1, 0), BAD);
        due("no sheet", x.cell(4, 0, 0), BAD);
        due("no sheet", x.cell(LEAST, 0, 0), BAD);
        due("no sheet", x.cell(MOST, 0, 0), BAD);
        due("missing ahead of outside", x.cell(0, -1, 0), NOTHING);
        due("missing ahead of outside", x.cell(0, 40, 0), NOTHING);
    }

    private static void cells(int sort, int[] put, int[] is) {
        SewsUpTheAfternoon x = new SewsUpTheAfternoon();
        row(x, 0, sort, put);
        items(x, 0, sort, is);
    }

    private static void cellsOfBytes() {
        int[] put = {0, 99, -99, 255, 256, 257, -256, -257, 256 + 99, 256 - 99, 65536, LEAST, MOST, LEAST + 7};
        int[] is = {0, 99, -99, -1, 0, 1, 0, -1, 99, -99, 0, 0, -1, 7};
        cells(BYTES, put, is);
    }

    private static void cellsOfShorts() {
        int[] put = {0, 99, -99, 65535, 65536, 65537, -65536, -65537, 65536 + 99, 65536 - 99, LEAST, MOST, LEAST + 7};
        int[] is = {0, 99, -99, -1, 0, 1, 0, -1, 99, -99, 0, -1, 7};
        cells(SHORTS, put, is);
        // the lowest 16 bits are kept whole: 1515 is FIRST and LAST
        SewsUpTheAfternoon x = new SewsUpTheAfternoon();
        row(x, 0, SHORTS, 0, 0, 1515, 0, 0, 65536 + 1215, 0, 0, 32768 + 1215);
        due("seams by shorts", x.seams(0, SHORTS, 0, 3), 2);
        due("first of 1515", x.told(0, 6), 15);
        due("first of 1215", x.told(1, 6), 12);
    }

    private static void cellsOfInts() {
        cells(INTS, new int[] {0, 99, -99}, new int[] {0, 99, -99});
        SewsUpTheAfternoon x = new SewsUpTheAfternoon();
        row(x, 0, INTS, 65536, 0, 0, 0, 256, 0, 0, 0, LEAST, 0, 0, MOST, 5, 9, 1515);
        due("seams by ints", x.seams(0, INTS, 0, 5), 1);
        due("all of the last", x.told(0, 5) * 100 + x.told(0, 2) * 10 + x.told(0, 7), 500 + 90 + 15);
    }

    // ---- promise 24

    private static void copyOfAll() {
        SewsUpTheAfternoon x = new SewsUpTheAfternoon();
        int[] all = new int[40];
        for (int i = 0; i < 40; i++) {
            all[i] = i + 1;
        }
        row(x, 0, BYTES, all);
        x.sheet(1, BYTES, 40);
        due("copy of 40", x.copy(0, 0, 1, 0, 40), 40);
        items(x, 1, BYTES, all);
        due("copy of the last to the first", x.copy(0, 39, 1, 0, 1), 1);
        item(x, 1, BYTES, 0, 40);
        due("copy of the first to the last", x.copy(0, 0, 1, 39, 1), 1);
        item(x, 1, BYTES, 39, 1);
        due("copy of 41", x.copy(0, 0, 1, 0, 41), OUTSIDE);
    }

    private static void copyOfNone() {
        SewsUpTheAfternoon x = new SewsUpTheAfternoon();
        row(x, 0, INTS, 1, 2);
        row(x, 1, INTS, 3);
        x.sheet(2, INTS, 0);
        due("none", x.copy(0, 0, 1, 0, 0), 0);
        due("none at the ends", x.copy(0, 2, 1, 1, 0), 0);
        due("none of none", x.copy(2, 0, 2, 0, 0), 0);
        due("none behind the end", x.copy(0, 3, 1, 0, 0), OUTSIDE);
        due("none to behind the end", x.copy(0, 0, 1, 2, 0), OUTSIDE);
        due("none ahead of all", x.copy(0, -1, 1, 0, 0), OUTSIDE);
        due("none to ahead of all", x.copy(0, 0, 1, -1, 0), OUTSIDE);
        items(x, 1, INTS, 3);
    }

    private static void copyOutside() {
        SewsUpTheAfternoon x = new SewsUpTheAfternoon();
        row(x, 0, SHORTS, 1, 2, 3, 4);
        row(x, 1, SHORTS, 8, 9);
        int[][] out = {{-1, 0, 1}, {0, -1, 1}, {0, 0, -1}, {3, 0, 2}, {4, 0, 1}, {0, 1, 2}, {0, 2, 1}, {0, 0, 3}, {5, 0, 0},
            {MOST, 0, 1}, {MOST, 0, 2}, {0, MOST, 1}, {1, 0, MOST}, {0, 1, MOST}, {LEAST, 0, 1}, {0, LEAST, 1}, {0, 0, LEAST},
            {MOST, MOST, MOST}, {LEAST, LEAST, LEAST}, {MOST, 0, LEAST}};
        for (int[] o : out) {
            due("copy from " + o[0] + " to " + o[1] + " of " + o[2], x.copy(0, o[0], 1, o[1], o[2]), OUTSIDE);
        }
        items(x, 0, SHORTS, 1, 2, 3, 4);
        items(x, 1, SHORTS, 8, 9);
        due("to the end", x.copy(0, 2, 1, 0, 2), 2);
        items(x, 1, SHORTS, 3, 4);
    }

    private static void copyAsTheyWere() {
        SewsUpTheAfternoon x = new SewsUpTheAfternoon();
        row(x, 0, INTS, 1, 2, 3, 4, 5);
        due("further on by one", x.copy(0, 0, 0, 1, 4), 4);
        items(x, 0, INTS, 1, 1, 2, 3, 4);
        row(x, 0, INTS, 1, 2, 3, 4, 5);
        due("back by two", x.copy(0, 2, 0, 0, 3), 3);
        items(x, 0, INTS, 3, 4, 5, 4, 5);
        due("on itself", x.copy(0, 0, 0, 0, 5), 5);
        items(x, 0, INTS, 3, 4, 5, 4, 5);
    }

    private static void copyOfEachSort() {
        SewsUpTheAfternoon x = new SewsUpTheAfternoon();
        for (int sort = 0; sort < 3; sort++) {
            for (int other = 0; other < 3; other++) {
                row(x, 0, sort, 1, 2);
                row(x, 1, other, 3, 4);
                due("copy of " + sort + " to " + other, x.copy(0, 0, 1, 0, 1), sort == other ? 1 : UNLIKE);
                items(x, 1, other, sort == other ? 1 : 3, 4);
            }
        }
    }

    private static void refusalsOfCopyInOrder() {
        SewsUpTheAfternoon x = new SewsUpTheAfternoon();
        x.sheet(0, BYTES, 2);
        x.sheet(1, SHORTS, 2);
        int[] none = {LEAST, -1, 4, MOST};
        for (int s : none) {
            due("no sheet ahead of missing", x.copy(s, 0, 3, 0, 1), BAD);
            due("no other ahead of missing", x.copy(3, 0, s, 0, 1), BAD);
            due("no sheet ahead of outside", x.copy(s, -1, 0, 0, 1), BAD);
        }
        due("missing ahead of outside", x.copy(3, -1, 0, 0, 1), NOTHING);
        due("another that is missing", x.copy(0, 0, 3, 0, 1), NOTHING);
        due("both missing", x.copy(2, 0, 3, 0, 1), NOTHING);
        due("missing on itself", x.copy(2, 0, 2, 0, 0), NOTHING);
        due("unlike ahead of outside", x.copy(0, -1, 1, 0, 1), UNLIKE);
        due("unlike ahead of n below 0", x.copy(0, 0, 1, 0, -1), UNLIKE);
        due("outside at last", x.copy(0, 0, 0, 0, -1), OUTSIDE);
    }

    // ---- promise 25

    private static void seamsAreOf0To6() {
        SewsUpTheAfternoon x = new SewsUpTheAfternoon();
        x.sheet(0, BYTES, 18);
        int[] none = {LEAST, -1, 7, MOST};
        for (int n : none) {
            due("seams of " + n, x.seams(0, BYTES, 0, n), BAD);
            due("none came", x.count(0), 0);
        }
        due("seams of 0", x.seams(0, BYTES, 0, 0), 0);
        due("seams of 6", x.seams(0, BYTES, 0, 6), 6);
        due("seams of 6 more", x.seams(0, BYTES, 0, 6), 0);
        due("seams of 7 more", x.seams(0, BYTES, 0, 7), BAD);
        due("six", x.count(0), 6);
    }

    private static void seamsFromOneOn() {
        SewsUpTheAfternoon x = new SewsUpTheAfternoon();
        int[] all = new int[40];
        for (int i = 0; i < 40; i++) {
            all[i] = 1;
        }
        all[37] = 5;
        all[38] = 9;
        all[39] = 1414;
        row(x, 0, SHORTS, all);
        due("the last three", x.seams(0, SHORTS, 37, 1), 1);
        due("of them", x.told(0, 5) * 1000 + x.told(0, 2) * 100 + x.told(0, 6), 5914);
        due("three and the last three", x.seams(0, SHORTS, 34, 2), 2);
        due("three by three", x.told(1, 5) * 1000 + x.told(1, 2) * 100 + x.told(1, 7), 1101);
        due("and the last", x.told(2, 7), 14);
    }

    private static void seamsThatAreLeftOut() {
        SewsUpTheAfternoon x = new SewsUpTheAfternoon();
        row(x, 0, SHORTS, 6, 0, 0, -1, 0, 0, 0, 10, 0, 0, -1, 0, 0, 0, 16, 0, 0, 100);
        due("none of six", x.seams(0, SHORTS, 0, 6), 0);
        due("no seam", x.count(0), 0);
        row(x, 0, SHORTS, 0, 0, 0, 6, 0, 0, 1, 1, 101, 0, 0, -1, 2, 2, 202);
        due("three of five", x.seams(0, SHORTS, 0, 5), 3);
        for (int s = 0; s < 3; s++) {
            due("kind of " + s, x.told(s, 5), s);
        }
        due("three more of five", x.seams(0, SHORTS, 0, 5), 3);
        due("none more of five", x.seams(0, SHORTS, 0, 5), 0);
    }

    private static void seamsOutside() {
        for (int size = 0; size <= 7; size++) {
            SewsUpTheAfternoon x = new SewsUpTheAfternoon();
            x.sheet(0, INTS, size);
            due("three of " + size, x.seams(0, INTS, 0, 3), OUTSIDE);
            due("what stood ahead came", x.count(0), size / 3);
        }
        int[] froms = {LEAST, -3, -1, 7, 9, 40, MOST, MOST - 2};
        for (int from : froms) {
            SewsUpTheAfternoon x = new SewsUpTheAfternoon();
            x.sheet(0, INTS, 9);
            due("from " + from, x.seams(0, INTS, from, 1), OUTSIDE);
            due("from " + from + ", of six", x.seams(0, INTS, from, 6), OUTSIDE);
            due("none came", x.count(0), 0);
        }
        SewsUpTheAfternoon x = new SewsUpTheAfternoon();
        row(x, 0, INTS, 9, 9, 9, 0, 3, 0, 0);
        due("left out, came, outside", x.seams(0, INTS, 0, 3), OUTSIDE);
        due("one came", x.count(0), 1);
        due("the one that came", x.told(0, 2), 3);
        for (int s = 1; s < 6; s++) {
            x.seam(0, 0, 0);
        }
        due("full, then outside", x.seams(0, INTS, 0, 3), OUTSIDE);
        due("full", x.seams(0, INTS, 0, 2), 0);
    }

    private static void seamsByEachSort() {
        for (int sort = 0; sort < 3; sort++) {
            SewsUpTheAfternoon x = new SewsUpTheAfternoon();
            row(x, 0, sort, 4, 8, 115, 4, 8, 215, 4, 8, 1515);
            // of bytes 215 and 1515 are below 0
            due("seams by sort " + sort, x.seams(0, sort, 0, 3), sort == BYTES ? 1 : 3);
        }
    }

    private static void seamsOfNone() {
        SewsUpTheAfternoon x = new SewsUpTheAfternoon();
        x.sheet(0, INTS, 0);
        due("none of a sheet of none", x.seams(0, INTS, 0, 0), 0);
        due("one of a sheet of none", x.seams(0, INTS, 0, 1), OUTSIDE);
        due("none by another sort", x.seams(0, BYTES, 0, 0), UNLIKE);
        due("none by missing", x.seams(1, BYTES, 0, 0), NOTHING);
    }

    private static void refusalsOfSeamsInOrder() {
        SewsUpTheAfternoon x = new SewsUpTheAfternoon();
        x.sheet(0, BYTES, 1);
        int[] sheets = {LEAST, -1, 4, MOST};
        for (int s : sheets) {
            due("no sheet " + s, x.seams(s, BYTES, -1, 1), BAD);
        }
        int[] sorts = {LEAST, -1, 3, MOST};
        for (int sort : sorts) {
            due("no sort ahead of unlike", x.seams(0, sort, -1, 1), BAD);
            due("no sort ahead of missing", x.seams(1, sort, -1, 1), BAD);
        }
        due("n ahead of unlike", x.seams(0, INTS, 0, 7), BAD);
        due("n ahead of missing", x.seams(1, INTS, 0, -1), BAD);
        due("unlike ahead of outside", x.seams(0, INTS, -1, 1), UNLIKE);
        due("missing ahead of outside", x.seams(1, INTS, -1, 1), NOTHING);
        due("outside at last", x.seams(0, BYTES, 0, 1), OUTSIDE);
    }

    // ---- promise 26

    private static void takenForAllKinds() {
        int[][] may = {{0}, {0, 1}, {0, 2}, {0, 1, 3}, {0, 2, 4}, {0, 5}};
        for (int kind = 0; kind < 6; kind++) {
            SewsUpTheAfternoon x = new SewsUpTheAfternoon();
            x.seam(kind, 9, 0);
            for (int k = 0; k < 6; k++) {
                int want = UNLIKE;
                for (int m : may[kind]) {
                    want = m == k ? 9 : want;
                }
                due("kind " + kind + " taken for " + k, x.taken(0, k), want);
            }
            x.set(2, 0, 0);
            x.set(4, 0, 1);
            due("the burst taken for a seam", x.taken(0, 0), 0);
        }
    }

    private static void refusalsOfTakenInOrder() {
        SewsUpTheAfternoon x = new SewsUpTheAfternoon();
        int[] ks = {LEAST, -1, 6, MOST};
        for (int k : ks) {
            due("kind " + k + " ahead of no seam", x.taken(0, k), BAD);
        }
        for (int s = 0; s < 6; s++) {
            due("no seam " + s, x.taken(s, 5), NOTHING);
            x.seam(0, s, 0);
            due("seam " + s, x.taken(s, 0), s);
            due("seam " + s + " for a pin", x.taken(s, 5), UNLIKE);
        }
        int[] seams = {LEAST, -1, 6, MOST};
        for (int s : seams) {
            due("no seam " + s, x.taken(s, 5), NOTHING);
        }
        for (int k : ks) {
            due("kind " + k, x.taken(0, k), BAD);
        }
    }
}
