/** Each sentence of the document on SHEETS, LANES, CORNERS (promises 21 to 26) that names a bound. */
public final class SheetBoundsTest extends Setup {
    private static final int[] NO_SHEET = {-1, 4, MIN, MAX};
    private static final int[] NO_LANE = {-1, 4, MIN, MAX};

    public static void main(String[] args) {
        nothingAtFirst();
        sheetBounds();
        newRow();
        dropBounds();
        itemBounds();
        lanes();
        lowestBits();
        cornersBounds();
        cornersOrder();
        cornersReach();
        cornersReachOnly();
        cornersOfFew();
        cornersOfTen();
        cornersOfAlike();
        cornersFromItemOn();
        cornersChangeNothing();
        filmBounds();
        filmOrder();
        filmFits();
        filmOfNone();
        filmOfTen();
        filmByAxis();
        copyBounds();
        copyOrder();
        copyIndex();
        copyNoItem();
        copyWhole();
        copyAsIfAhead();
        copyKeepsLanes();
        due.end();
    }

    /** Nothing (at first). */
    private static void nothingAtFirst() {
        ZoneJudge j = new ZoneJudge();
        for (int s = 0; s < 4; s++) {
            due.is("drop", j.drop(s), NULL);
            for (int lane = 0; lane < 4; lane++) {
                due.is("item", j.item(s, lane, 0, 0), NULL);
                due.is("item, no index", j.item(s, lane, -1, 0), NULL);
                due.is("corners", j.corners(s, lane, 0, 1), NULL);
                due.is("film", j.film(0, s, lane, 0), NULL);
            }
            due.is("copy", j.copy(s, 0, 3 - s, 0, 0), NULL);
            due.is("copy to itself", j.copy(s, 0, s, 0, 0), NULL);
        }
    }

    /** SHEETS 0 .. 3, LANES 0 .. 3, 0 to 24 items. BAD: also n above 24; SIZE: n below 0. */
    private static void sheetBounds() {
        ZoneJudge j = new ZoneJudge();
        for (int s = 0; s < 4; s++) {
            for (int lane = 0; lane < 4; lane++) {
                due.is("no items", j.sheet(s, lane, 0), 0);
                due.is("no items", j.drop(s), 0);
                due.is("most items", j.sheet(s, lane, 24), 24);
                due.is("most items", j.drop(s), 24);
                due.is("too many", j.sheet(s, lane, 25), BAD);
                due.is("far too many", j.sheet(s, lane, MAX), BAD);
                due.is("below 0", j.sheet(s, lane, -1), SIZE);
                due.is("far below 0", j.sheet(s, lane, MIN), SIZE);
                due.is("none of these came", j.drop(s), NULL);
            }
        }
        for (int s : NO_SHEET) {
            due.is("no sheet " + s, j.sheet(s, 0, 1), BAD);
            due.is("no sheet, bad ahead of size", j.sheet(s, 0, -1), BAD);
        }
        for (int lane : NO_LANE) {
            due.is("no lane " + lane, j.sheet(0, lane, 1), BAD);
            due.is("no lane, bad ahead of size", j.sheet(0, lane, MIN), BAD);
        }
        due.is("nothing came", j.drop(0), NULL);
        filled(j, 0, 0, 2, 5, 6);
        j.sheet(0, 1, 25);
        j.sheet(0, 1, -1);
        j.sheet(0, 4, 3);
        holds(j, "what was there stays", 5, 6);
        due.is("as long as it was", j.drop(0), 2);
    }

    /** A new row: of that LANE, that long, of items 0, whatever was there. */
    private static void newRow() {
        ZoneJudge j = new ZoneJudge();
        for (int lane = 0; lane < 4; lane++) {
            filled(j, 0, lane, 4, 1, 2, 3, 4);
            due.is("new row", j.sheet(0, lane, 4), 4);
            for (int i = 0; i < 4; i++) due.is("item " + i, itemOf(j, 0, lane, i), 0);
            filled(j, 0, lane, 4, 1, 2, 3, 4);
            j.drop(0);
            j.sheet(0, lane, 3);
            for (int i = 0; i < 3; i++) due.is("item " + i, itemOf(j, 0, lane, i), 0);
            due.is("no fourth", j.item(0, lane, 3, 1), INDEX);
            j.sheet(0, (lane + 1) % 4, 5);
            due.is("no more of that lane", j.item(0, lane, 0, 1), CAST);
            due.is("longer", j.item(0, (lane + 1) % 4, 4, 1), 1);
        }
        j.sheet(0, 0, 24);
        filled(j, 0, 0, 24, 9, 9, 9);
        j.sheet(0, 0, 2);
        j.sheet(0, 0, 24);
        for (int i = 0; i < 3; i++) due.is("item " + i, itemOf(j, 0, 0, i), 0);
    }

    /** How many items it had. BAD; NULL. */
    private static void dropBounds() {
        ZoneJudge j = new ZoneJudge();
        for (int s : NO_SHEET) due.is("no sheet " + s, j.drop(s), BAD);
        for (int s = 0; s < 4; s++) j.sheet(s, s, 6 * s);
        for (int s = 0; s < 4; s++) {
            due.is("had", j.drop(s), 6 * s);
            due.is("nothing any more", j.drop(s), NULL);
        }
    }

    private static void itemBounds() {
        ZoneJudge j = new ZoneJudge();
        j.sheet(1, 2, 24);
        for (int s : NO_SHEET) due.is("no sheet " + s, j.item(s, 2, 0, 1), BAD);
        for (int lane : NO_LANE) due.is("no lane " + lane, j.item(1, lane, 0, 1), BAD);
        for (int i : new int[] {-1, 24, 25, MIN, MAX}) due.is("no item " + i, j.item(1, 2, i, 1), INDEX);
        due.is("the first", j.item(1, 2, 0, 1), 1);
        due.is("the last", j.item(1, 2, 23, 1), 1);
        due.is("bad ahead of null", j.item(0, 4, 0, 1), BAD);
        due.is("bad ahead of index", j.item(1, -1, 99, 1), BAD);
        due.is("null ahead of index", j.item(0, 2, -1, 1), NULL);
        due.is("cast ahead of index", j.item(1, 3, 24, 1), CAST);
        j.sheet(1, 2, 0);
        due.is("no items at all", j.item(1, 2, 0, 1), INDEX);
        due.is("no items at all, below", j.item(1, 2, -1, 1), INDEX);
    }

    /** CAST: another LANE. */
    private static void lanes() {
        ZoneJudge j = new ZoneJudge();
        for (int held = 0; held < 4; held++) {
            j.sheet(0, held, 2);
            for (int lane = 0; lane < 4; lane++) {
                due.is("item", j.item(0, lane, 0, 1), lane == held ? 1 : CAST);
                due.is("corners", j.corners(0, lane, 0, 1), lane == held ? 1 : CAST);
                due.is("film", j.film(0, 0, lane, 0), lane == held ? 0 : CAST);
            }
        }
    }

    /** Becomes v, its lowest bits: 8, 16, 32, 64, all with a sign. */
    private static void lowestBits() {
        for (int lane = 0; lane < 4; lane++) {
            long wrap = lane == 3 ? 0 : 1L << (8 << lane);
            becomes(lane, 15, 15);
            becomes(lane, -15, -15);
            becomes(lane, 16, 99);
            becomes(lane, -16, 99);
            becomes(lane, wrap + 15, 15);
            becomes(lane, wrap - 15, -15);
            becomes(lane, wrap - 1, -1);
            becomes(lane, -wrap, 0);
            becomes(lane, -wrap + 7, 7);
            becomes(lane, 5 * wrap - 3, -3);
            becomes(lane, wrap + 16, 99);
            becomes(lane, Long.MAX_VALUE, lane == 3 ? 99 : -1);
            becomes(lane, Long.MIN_VALUE, lane == 3 ? 99 : 0);
            if (lane == 3) continue;
            becomes(lane, wrap / 2, 99);
            becomes(lane, wrap / 2 - 1, 99);
            becomes(lane, -wrap / 2, 99);
            becomes(lane, Long.MIN_VALUE + 4, 4);
        }
        // a longer lane keeps what a shorter one loses
        becomes(0, 256, 0);
        becomes(1, 256, 99);
        becomes(1, 65536, 0);
        becomes(2, 65536, 99);
        becomes(2, 1L << 32, 0);
        becomes(3, 1L << 32, 99);
    }

    /** Whether an item that v is told to is want; 99, if it isn't -15 .. 15. */
    private static void becomes(int lane, long v, int want) {
        ZoneJudge j = new ZoneJudge();
        j.sheet(0, lane, 1);
        due.is("item " + v, j.item(0, lane, 0, v), 1);
        due.is("lane " + lane + " of " + v, itemOf(j, 0, lane, 0), want);
    }

    private static void cornersBounds() {
        ZoneJudge j = new ZoneJudge();
        j.sheet(0, 0, 20);
        for (int s : NO_SHEET) due.is("no sheet " + s, j.corners(s, 0, 0, 1), BAD);
        for (int lane : NO_LANE) due.is("no lane " + lane, j.corners(0, lane, 0, 1), BAD);
        for (int n : new int[] {0, -1, 11, MIN, MAX, 1 << 30}) due.is("n " + n, j.corners(0, 0, 0, n), BAD);
        due.is("least n", j.corners(0, 0, 0, 1), 1);
        due.is("most n, all items", j.corners(0, 0, 0, 10), 1);
        for (int i : new int[] {-1, 1, MIN, MAX, MAX - 19}) due.is("i " + i, j.corners(0, 0, i, 10), INDEX);
        for (int i : new int[] {-1, 19, 20, 21, MIN, MAX}) due.is("i " + i, j.corners(0, 0, i, 1), INDEX);
        due.is("the last two", j.corners(0, 0, 18, 1), 1);
        j.sheet(0, 0, 0);
        due.is("no items", j.corners(0, 0, 0, 1), INDEX);
        j.sheet(0, 0, 1);
        due.is("one item", j.corners(0, 0, 0, 1), INDEX);
        j.sheet(0, 0, 2);
        due.is("two items", j.corners(0, 0, 0, 1), 1);
        due.is("two items, four wanted", j.corners(0, 0, 0, 2), INDEX);
    }

    /** BAD ahead of all others; NULL; CAST; INDEX; NOT. */
    private static void cornersOrder() {
        ZoneJudge j = new ZoneJudge();
        due.is("bad ahead of null: n", j.corners(0, 0, 0, 0), BAD);
        due.is("bad ahead of null: n", j.corners(0, 0, 0, 11), BAD);
        due.is("bad ahead of null: lane", j.corners(0, 4, 0, 1), BAD);
        due.is("null ahead of index", j.corners(0, 0, -1, 1), NULL);
        filled(j, 0, 0, 4, 16, 16, 16, 16);
        due.is("bad ahead of cast", j.corners(0, 1, 0, 11), BAD);
        due.is("bad ahead of index", j.corners(0, 0, -1, 0), BAD);
        due.is("bad ahead of not", j.corners(0, 0, 0, 0), BAD);
        due.is("cast ahead of index", j.corners(0, 1, 9, 1), CAST);
        due.is("cast ahead of not", j.corners(0, 1, 0, 1), CAST);
        due.is("index ahead of not", j.corners(0, 0, 0, 3), INDEX);
        due.is("index ahead of not", j.corners(0, 0, 3, 1), INDEX);
        due.is("not", j.corners(0, 0, 0, 2), NOT);
    }

    /** NOT: an item is not -15 .. 15. */
    private static void cornersReach() {
        for (int lane = 0; lane < 4; lane++) {
            for (int place = 0; place < 4; place++) {
                ZoneJudge j = new ZoneJudge();
                j.sheet(0, lane, 4);
                for (long v : new long[] {16, -16, 127, -128}) {
                    j.item(0, lane, place, v);
                    due.is("item " + v, j.corners(0, lane, 0, 2), NOT);
                }
                for (long v : new long[] {15, -15}) {
                    j.item(0, lane, place, v);
                    due.is("item " + v, j.corners(0, lane, 0, 2), 3);
                }
            }
        }
        ZoneJudge j = new ZoneJudge();
        j.sheet(0, 3, 2);
        for (long v : new long[] {1L << 32, 1L << 40, -(1L << 32), Long.MIN_VALUE, Long.MAX_VALUE}) {
            j.item(0, 3, 0, v);
            due.is("a long's lowest bits are not the item", j.corners(0, 3, 0, 1), NOT);
        }
    }

    /** The items that are taken, and no others. */
    private static void cornersReachOnly() {
        ZoneJudge j = new ZoneJudge();
        filled(j, 0, 2, 6, 16, 0, 0, 1, 1, 16);
        due.is("between them", j.corners(0, 2, 1, 2), 3);
        due.is("with the first", j.corners(0, 2, 0, 2), NOT);
        due.is("with the last", j.corners(0, 2, 2, 2), NOT);
    }

    /** One pair; all alike; in one line. */
    private static void cornersOfFew() {
        ZoneJudge j = new ZoneJudge();
        filled(j, 0, 0, 24, 3, 4);
        due.is("one", j.corners(0, 0, 0, 1), 1);
        filled(j, 0, 0, 24, 2, 2, 2, 2, 2, 2, 2, 2, 2, 2, 2, 2, 2, 2, 2, 2, 2, 2, 2, 2);
        for (int n = 1; n <= 10; n++) due.is("all alike", j.corners(0, 0, 0, n), 1);
        filled(j, 0, 0, 24, 2, 2, 4, 4, 0, 0, 1, 1, 3, 3, -2, -2, 6, 6);
        int[] line = {1, 3, 6, 6, 6, 34, 96};
        for (int n = 1; n <= 7; n++) due.is("in one line, " + n, j.corners(0, 0, 0, n), line[n - 1]);
        filled(j, 0, 0, 24, 0, 3, 0, 1, 0, 2);
        due.is("upright", j.corners(0, 0, 0, 3), 3);
        filled(j, 0, 0, 24, 3, 0, 1, 0, 2, 0);
        due.is("flat", j.corners(0, 0, 0, 3), 3);
        filled(j, 0, 0, 24, 0, 0, 4, 0, 0, 4);
        due.is("three", j.corners(0, 0, 0, 3), 7);
    }

    private static void cornersOfTen() {
        ZoneJudge j = tenCorners();
        j.sheet(0, 0, 24);
        due.is("film", j.film(2, 0, 0, 4), 20);
        due.is("all ten", j.corners(0, 0, 4, 10), 1023);
        j.film(1, 0, 0, 4);
        due.is("first and last", j.corners(0, 0, 4, 10), 1 + 512);
        j.film(0, 0, 0, 4);
        due.is("in one line: y 10 and -15", j.corners(0, 0, 4, 10), 512 + 16);
    }

    /** Of alike ones the first. */
    private static void cornersOfAlike() {
        ZoneJudge j = new ZoneJudge();
        filled(j, 0, 1, 24, 4, 4, 0, 0, 4, 0, 4, 4, 0, 0, 4, 0, 2, 1);
        due.is("three twice, and one inside", j.corners(0, 1, 0, 7), 7);
        due.is("from the second on", j.corners(0, 1, 2, 6), 7);
        due.is("the last ones", j.corners(0, 1, 6, 4), 7);
        filled(j, 0, 1, 24, 2, 1, 4, 4, 0, 0, 4, 0, 2, 1, 4, 4);
        due.is("one inside twice", j.corners(0, 1, 0, 6), 14);
        filled(j, 0, 1, 24, 1, 1, 0, 0, 1, 1, 0, 0);
        due.is("two places", j.corners(0, 1, 0, 4), 3);
    }

    private static void cornersFromItemOn() {
        ZoneJudge j = new ZoneJudge();
        filled(j, 2, 2, 24, 0, 0, 0, 4, 0, 0, 4);
        due.is("from 0: (0, 0), (0, 4), (0, 0)", j.corners(2, 2, 0, 3), 3);
        due.is("from 1: (0, 0), (4, 0), (0, 4)", j.corners(2, 2, 1, 3), 7);
        due.is("from 2: (0, 4), (0, 0), (4, 0)", j.corners(2, 2, 2, 3), 7);
    }

    private static void cornersChangeNothing() {
        ZoneJudge j = told(1, 2, 3, 4, 5, 6);
        int hull = j.hull(2, 1);
        filled(j, 0, 0, 6, 9, 9, 8, 7, -3, 2);
        due.is("corners", j.corners(0, 0, 0, 3), 7);
        due.is("hull stays", j.hull(2, 1), hull);
        due.is("points stay", j.count(0), 2);
        holds(j, "items stay", 9, 9, 8, 7, -3, 2);
    }

    private static void filmBounds() {
        ZoneJudge j = told(1, 2, 3, 4, 5, 6);
        j.sheet(0, 0, 6);
        for (int axis : new int[] {-1, 3, MIN, MAX}) due.is("no axis " + axis, j.film(axis, 0, 0, 0), BAD);
        for (int s : NO_SHEET) due.is("no sheet " + s, j.film(0, s, 0, 0), BAD);
        for (int lane : NO_LANE) due.is("no lane " + lane, j.film(0, 0, lane, 0), BAD);
        for (int i : new int[] {-1, 3, 4, 6, 7, MIN, MAX, MAX - 3}) due.is("i " + i, j.film(0, 0, 0, i), INDEX);
        holds(j, "nothing came", 0, 0, 0, 0, 0, 0);
        due.is("the last place", j.film(0, 0, 0, 2), 4);
        holds(j, "came there", 0, 0, 2, 3, 5, 6);
        due.is("the first place", j.film(0, 0, 0, 0), 4);
        holds(j, "came there", 2, 3, 5, 6, 5, 6);
    }

    private static void filmOrder() {
        ZoneJudge j = told(1, 2, 3);
        due.is("bad ahead of null: axis", j.film(3, 0, 0, 0), BAD);
        due.is("bad ahead of null: lane", j.film(0, 0, 4, 0), BAD);
        due.is("null ahead of index", j.film(0, 0, 0, -1), NULL);
        j.sheet(0, 0, 1);
        due.is("bad ahead of cast", j.film(3, 0, 1, 0), BAD);
        due.is("bad ahead of index", j.film(-1, 0, 0, 9), BAD);
        due.is("cast ahead of index", j.film(0, 0, 1, 9), CAST);
        due.is("index", j.film(0, 0, 0, 0), INDEX);
    }

    /** A row that just has room, one that hasn't: then nothing at all comes. */
    private static void filmFits() {
        ZoneJudge j = told(1, 2, 3, 4, 5, 6);
        filled(j, 0, 0, 4, 7, 7, 7, 7);
        due.is("just room", j.film(2, 0, 0, 0), 4);
        holds(j, "came", 1, 2, 4, 5);
        filled(j, 0, 0, 3, 7, 7, 7);
        due.is("no room", j.film(2, 0, 0, 0), INDEX);
        holds(j, "none came", 7, 7, 7);
        filled(j, 0, 0, 6, 7, 7, 7, 7, 7, 7);
        due.is("between", j.film(2, 0, 0, 1), 4);
        holds(j, "both sides stay", 7, 1, 2, 4, 5, 7);
    }

    /** INDEX also where no item is taken, if i is below 0, or above how many there are. */
    private static void filmOfNone() {
        ZoneJudge j = new ZoneJudge();
        j.sheet(0, 0, 3);
        for (int i = 0; i <= 3; i++) due.is("no points, " + i, j.film(0, 0, 0, i), 0);
        for (int i : new int[] {-1, 4, MIN, MAX}) due.is("no points, " + i, j.film(0, 0, 0, i), INDEX);
        j.sheet(0, 0, 0);
        due.is("no items", j.film(0, 0, 0, 0), 0);
        for (int i : new int[] {-1, 1}) due.is("no items, " + i, j.film(0, 0, 0, i), INDEX);
        j.add(1, 1, 1);
        due.is("no items, one point", j.film(0, 0, 0, 0), INDEX);
    }

    private static void filmOfTen() {
        ZoneJudge j = tenCorners();
        j.sheet(0, 3, 24);
        due.is("ten at the end", j.film(2, 0, 3, 4), 20);
        due.is("one too far", j.film(2, 0, 3, 5), INDEX);
        j.sheet(0, 3, 20);
        due.is("just room", j.film(2, 0, 3, 0), 20);
        due.is("the last u", itemOf(j, 0, 3, 18), -5);
        due.is("the last v", itemOf(j, 0, 3, 19), 10);
        j.sheet(0, 3, 19);
        due.is("no room", j.film(2, 0, 3, 0), INDEX);
    }

    private static void filmByAxis() {
        for (int lane = 0; lane < 4; lane++) {
            ZoneJudge j = told(-15, 0, 15, 15, -15, 1);
            j.sheet(0, lane, 4);
            int[][] want = {{0, 15, -15, 1}, {-15, 15, 15, 1}, {-15, 0, 15, -15}};
            for (int axis = 0; axis < AXES; axis++) {
                due.is("film", j.film(axis, 0, lane, 0), 4);
                for (int i = 0; i < 4; i++) due.is("item " + i, itemOf(j, 0, lane, i), want[axis][i]);
            }
        }
    }

    private static void copyBounds() {
        ZoneJudge j = new ZoneJudge();
        j.sheet(0, 0, 2);
        for (int s : NO_SHEET) {
            due.is("from " + s, j.copy(s, 0, 0, 0, 1), BAD);
            due.is("to " + s, j.copy(0, 0, s, 0, 1), BAD);
        }
        for (int s = 1; s < 4; s++) {
            due.is("from nothing", j.copy(s, 0, 0, 0, 1), NULL);
            due.is("to nothing", j.copy(0, 0, s, 0, 1), NULL);
        }
        for (int s = 1; s < 4; s++) {
            j.sheet(s, s, 2);
            due.is("unlike", j.copy(0, 0, s, 0, 1), CAST);
            due.is("unlike, the other way", j.copy(s, 0, 0, 0, 1), CAST);
        }
    }

    /** BAD ahead of all others, then NULL, CAST, INDEX. */
    private static void copyOrder() {
        ZoneJudge j = new ZoneJudge();
        due.is("bad ahead of null: to", j.copy(0, 0, 4, 0, 0), BAD);
        due.is("bad ahead of null: from", j.copy(4, 0, 0, 0, 0), BAD);
        due.is("null ahead of index", j.copy(0, -1, 1, -1, -1), NULL);
        j.sheet(0, 0, 2);
        due.is("bad ahead of index", j.copy(0, -1, -1, 0, -1), BAD);
        due.is("null (to) ahead of index", j.copy(0, -1, 1, 0, -1), NULL);
        due.is("null (from) ahead of index", j.copy(1, 0, 0, 9, 1), NULL);
        j.sheet(1, 1, 2);
        due.is("cast ahead of index: i", j.copy(0, -1, 1, 0, 1), CAST);
        due.is("cast ahead of index: j", j.copy(0, 0, 1, 9, 1), CAST);
        due.is("cast ahead of index: n", j.copy(0, 0, 1, 0, -1), CAST);
        due.is("cast where no item is taken", j.copy(0, 0, 1, 0, 0), CAST);
    }

    /** INDEX (n below 0, too). */
    private static void copyIndex() {
        ZoneJudge j = new ZoneJudge();
        filled(j, 0, 0, 5, 1, 2, 3, 4, 5);
        filled(j, 1, 0, 3, 7, 8, 9);
        for (int n : new int[] {-1, MIN, MIN + 1}) due.is("n " + n, j.copy(0, 0, 1, 0, n), INDEX);
        due.is("n below 0, i behind", j.copy(0, 5, 1, 3, -1), INDEX);
        for (int i : new int[] {-1, 3, 5, 6, MIN, MAX, MAX - 2}) due.is("i " + i, j.copy(0, i, 1, 0, 3), INDEX);
        for (int k : new int[] {-1, 1, 3, 4, MIN, MAX, MAX - 2}) due.is("j " + k, j.copy(0, 0, 1, k, 3), INDEX);
        for (int n : new int[] {4, 5, 6, MAX}) due.is("n " + n, j.copy(0, 0, 1, 0, n), INDEX);
        due.is("enough there, not here", j.copy(1, 0, 0, 0, 4), INDEX);
        due.is("both far", j.copy(0, MAX, 1, MAX, MAX), INDEX);
        holds(j, "none came", 1, 2, 3, 4, 5);
        due.is("just room", j.copy(0, 2, 1, 0, 3), 3);
        due.is("one", j.copy(1, 2, 0, 4, 1), 1);
        due.is("first", j.copy(1, 0, 0, 0, 1), 1);
        holds(j, "came", 3, 2, 3, 4, 5);
    }

    /** INDEX also where no item is taken, if i, j is below 0, or above how many there are. */
    private static void copyNoItem() {
        ZoneJudge j = new ZoneJudge();
        j.sheet(0, 0, 2);
        j.sheet(1, 0, 0);
        due.is("none", j.copy(0, 0, 1, 0, 0), 0);
        due.is("none, behind the last", j.copy(0, 2, 1, 0, 0), 0);
        due.is("none, the other way", j.copy(1, 0, 0, 2, 0), 0);
        for (int i : new int[] {-1, 3, MIN, MAX}) {
            due.is("i " + i, j.copy(0, i, 1, 0, 0), INDEX);
            due.is("j " + i, j.copy(1, 0, 0, i, 0), INDEX);
        }
        for (int i : new int[] {-1, 1}) {
            due.is("of an empty one, i " + i, j.copy(1, i, 0, 0, 0), INDEX);
            due.is("of an empty one, j " + i, j.copy(0, 0, 1, i, 0), INDEX);
        }
        due.is("one of an empty one", j.copy(1, 0, 0, 0, 1), INDEX);
    }

    private static void copyWhole() {
        ZoneJudge j = new ZoneJudge();
        j.sheet(0, 2, 24);
        j.sheet(1, 2, 24);
        for (int i = 0; i < 24; i++) j.item(0, 2, i, i % 31 - 15);
        due.is("all", j.copy(0, 0, 1, 0, 24), 24);
        due.is("all to itself", j.copy(1, 0, 1, 0, 24), 24);
        due.is("one more", j.copy(0, 0, 1, 0, 25), INDEX);
        due.is("the first", itemOf(j, 1, 2, 0), -15);
        due.is("the last", itemOf(j, 1, 2, 23), 8);
        due.is("what it was taken from stays", itemOf(j, 0, 2, 23), 8);
        j.item(0, 2, 0, 3);
        due.is("rows of their own", itemOf(j, 1, 2, 0), -15);
    }

    /** As if all were taken ahead. */
    private static void copyAsIfAhead() {
        for (int far = 1; far <= 4; far++) {
            ZoneJudge j = new ZoneJudge();
            filled(j, 0, 0, 5, 1, 2, 3, 4, 5);
            due.is("upwards", j.copy(0, 0, 0, far, 5 - far), 5 - far);
            for (int i = 0; i < 5; i++) due.is("upwards " + far, itemOf(j, 0, 0, i), i < far ? i + 1 : i - far + 1);
            filled(j, 0, 0, 5, 1, 2, 3, 4, 5);
            due.is("downwards", j.copy(0, far, 0, 0, 5 - far), 5 - far);
            for (int i = 0; i < 5; i++) due.is("downwards " + far, itemOf(j, 0, 0, i), i < 5 - far ? i + far + 1 : i + 1);
        }
    }

    /** Items come as they are, in every LANE. */
    private static void copyKeepsLanes() {
        for (int lane = 0; lane < 4; lane++) {
            ZoneJudge j = new ZoneJudge();
            filled(j, 0, lane, 2, 127, -7);
            j.sheet(1, lane, 2);
            due.is("copy", j.copy(0, 0, 1, 0, 2), 2);
            due.is("127 is not -15 .. 15", itemOf(j, 1, lane, 0), 99);
            due.is("-7", itemOf(j, 1, lane, 1), -7);
            due.is("still of that lane", j.item(1, lane, 0, 1), 1);
        }
    }
}
