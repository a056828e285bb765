/** What tests by hand have in common: the answers' names, and objects that are told something ahead. */
abstract class Setup {
    static final int BAD = -1, NOT = -2, FULL = -3, NONE = -4, NULL = -11, CAST = -12, INDEX = -13, SIZE = -14;
    static final int MAX = Integer.MAX_VALUE, MIN = Integer.MIN_VALUE;
    static final int AXES = 3, SLAB = 3;
    static final Due due = new Due();

    static ZoneJudge told(int... numbers) {
        ZoneJudge j = new ZoneJudge();
        for (int k = 0; k + 2 < numbers.length; k += 3) j.add(numbers[k], numbers[k + 1], numbers[k + 2]);
        return j;
    }

    static void typed(ZoneJudge j, String text) {
        for (int k = 0; k < text.length(); k++) j.type(text.charAt(k));
    }

    static void filled(ZoneJudge j, int sheet, int lane, int n, long... items) {
        j.sheet(sheet, lane, n);
        for (int i = 0; i < items.length; i++) j.item(sheet, lane, i, items[i]);
    }

    /** Whether POINT k is at x, y, z. */
    static void isAt(String what, ZoneJudge j, int k, int x, int y, int z) {
        due.is(what + ", x", j.point(k, 0), x + 15);
        due.is(what + ", y", j.point(k, 1), y + 15);
        due.is(what + ", z", j.point(k, 2), z + 15);
    }

    /** Tells THE DRAW, and leaves it as it is. */
    static int drawOf(ZoneJudge j) {
        int draw = j.seed(0);
        j.seed(draw);
        return draw;
    }

    /** Ten POINTS, all of them corners along z, the rightmost first: x is 4 down to -5, y is x times x, less 15. */
    static ZoneJudge tenCorners() {
        ZoneJudge j = new ZoneJudge();
        for (int x = 4; x >= -5; x--) j.add(x, x * x - 15, 0);
        return j;
    }

    /** Nine POINTS in one line along x, and a tenth one beside them. */
    static ZoneJudge nineAndOne() {
        ZoneJudge j = new ZoneJudge();
        for (int x = 0; x < 9; x++) j.add(x, 0, 0);
        j.add(4, 5, 0);
        return j;
    }

    static void reads(String text, int want) {
        ZoneJudge j = told(9, 9, 9);
        typed(j, text);
        due.is("read <" + text + ">", j.read(), want);
        due.is("points behind <" + text + ">", j.count(0), want < 0 ? 1 : want);
        due.is("undone behind <" + text + ">", j.count(2), want < 0 ? 1 : 2);
        due.is("tape behind <" + text + ">", j.type('1'), 1);
    }

    /** Whether the bytes of sheet 0 are these, all -15 .. 15. */
    static void holds(ZoneJudge j, String what, long... items) {
        for (int i = 0; i < items.length; i++) {
            due.is(what + ", item " + i, itemOf(j, 0, 0, i), items[i]);
        }
    }

    /** No call tells an item: on sheet 3 it stands beside every number, and with the like one there is one corner. */
    static long itemOf(ZoneJudge j, int sheet, int lane, int i) {
        j.sheet(3, lane, 4);
        j.copy(sheet, i, 3, 0, 1);
        for (int v = -15; v <= 15; v++) {
            j.item(3, lane, 2, v);
            if (j.corners(3, lane, 0, 2) == 1) return v;
        }
        return 99;
    }
}
