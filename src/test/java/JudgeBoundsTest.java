/** Each sentence of the document on THE BAND, THE SLAB, LOST (promises 10 to 13) that names a bound. */
public final class JudgeBoundsTest extends Setup {
    public static void main(String[] args) {
        judgeBounds();
        noPoints();
        onePoint();
        twoPoints();
        seenInOnePlace();
        seenInOneLine();
        inOneLineInSpace();
        inOnePlaneInSpace();
        waySigns();
        leastWayFlat();
        leastWayInSpace();
        noCommonDivisor();
        greatWays();
        lowAndHigh();
        highAskedFirst();
        tenthPoint();
        goodAtTheBound();
        goodWithoutTolerance();
        goodAtMost();
        worstOfLikeOnes();
        worstOfEach();
        wayBounds();
        withoutBounds();
        withoutFew();
        withoutOneInside();
        withoutChangesNothing();
        judgedAnew();
        widthFractions();
        lostBounds();
        lostCertain();
        lostFew();
        lostFractions();
        lostByTolerance();
        lostAtTheBound();
        lostSeenInOnePlace();
        lostOfNeighbours();
        lostInAnyOrder();
        due.end();
    }

    private static void judged(String what, ZoneJudge j, int by, long... want) {
        for (int k = 0; k < want.length; k++) due.is(what + ": judge " + by + ", " + k, j.judge(by, k), want[k]);
    }

    private static void ways(String what, ZoneJudge j, int by, int... want) {
        for (int k = 0; k < want.length; k++) due.is(what + ": way " + by + ", " + k, j.way(by, k), want[k] + 2000);
    }

    private static void noWay(String what, ZoneJudge j, int by) {
        for (int k = 0; k < (by == SLAB ? 3 : 2); k++) due.is(what + ": no way " + by + ", " + k, j.way(by, k), NONE);
    }

    private static void odds(String what, ZoneJudge j, int by, int c, long above, long below) {
        due.is(what + ": lost by " + c + ", above", j.lost(by, c, 0), above);
        due.is(what + ": lost by " + c + ", below", j.lost(by, c, 1), below);
    }

    private static void narrower(String what, ZoneJudge j, int by, int k, long above, long below) {
        due.is(what + ": without " + k + ", above", j.without(by, k, 0), above);
        due.is(what + ": without " + k + ", below", j.without(by, k, 1), below);
    }

    private static ZoneJudge cube(int side) {
        ZoneJudge j = new ZoneJudge();
        for (int k = 0; k < 8; k++) j.add(k % 2 * side, k / 2 % 2 * side, k / 4 * side);
        return j;
    }

    /** JUDGES are 0 .. 2, and 3; six things are asked. */
    private static void judgeBounds() {
        ZoneJudge j = told(0, 0, 0, 4, 0, 0, 0, 3, 0);
        for (int by : new int[] {-1, 4, MIN, MAX}) {
            for (int what = 0; what < 6; what++) due.is("judge " + by, j.judge(by, what), BAD);
        }
        for (int what : new int[] {-1, 6, MIN, MAX}) {
            for (int by = 0; by < 4; by++) due.is("what " + what, j.judge(by, what), BAD);
        }
        due.is("bad ahead of none: judge", new ZoneJudge().judge(4, 5), BAD);
        due.is("bad ahead of none: what", new ZoneJudge().judge(0, 6), BAD);
        judged("all six", j, 2, 144, 25, 1, 6, 0, 0);
        judged("all six", j, 3, 0, 1, 7, 7, 1, 0);
    }

    /** No POINTS: WIDTH 0, GOOD, no WAY; NONE is WORST. */
    private static void noPoints() {
        ZoneJudge j = new ZoneJudge();
        j.tolerance(0);
        for (int by = 0; by < 4; by++) {
            judged("no points", j, by, 0, 1, 0, 0, 1, NONE);
            noWay("no points", j, by);
            due.is("no points, without", j.without(by, 0, 0), BAD);
        }
    }

    private static void onePoint() {
        ZoneJudge j = told(15, -15, 7);
        j.tolerance(0);
        for (int by = 0; by < 4; by++) {
            judged("one point", j, by, 0, 1, 0, 0, 1, 0);
            noWay("one point", j, by);
            narrower("one point", j, by, 0, 0, 1);
        }
    }

    /** Less than three have no WAY in space; two that are SEEN apart have one. */
    private static void twoPoints() {
        ZoneJudge j = told(0, 0, 0, 1, 2, 3);
        judged("two points", j, 3, 0, 1, 0, 0, 1, 0);
        noWay("two points", j, 3);
        for (int by = 0; by < AXES; by++) judged("two points", j, by, 0, 1, 3, 3, 1, 0);
        ways("two points", j, 0, 3, -2);
        ways("two points", j, 1, 3, -1);
        ways("two points", j, 2, 2, -1);
        j.add(1, 2, 4);
        judged("a third one", j, 3, 0, 1, 7, 7, 1, 0);
        ways("a third one", j, 3, 2, -1, 0);
    }

    /** What is SEEN in one place has WIDTH 0, and no WAY: none are LOW or HIGH. */
    private static void seenInOnePlace() {
        for (int axis = 0; axis < AXES; axis++) {
            ZoneJudge j = new ZoneJudge();
            j.tolerance(0);
            for (int k = -4; k <= 5; k++) j.add(axis == 0 ? k : 3, axis == 1 ? k : 3, axis == 2 ? k : 3);
            judged("one place", j, axis, 0, 1, 0, 0, 1, 0);
            noWay("one place", j, axis);
            narrower("one place", j, axis, 9, 0, 1);
            odds("one place", j, axis, 0, 1, 1);
            odds("one place", j, axis, 5, 1, 1);
            for (int other = 0; other < AXES; other++) {
                if (other != axis) judged("one line beside it", j, other, 0, 1, 1023, 1023, 1, 0);
            }
            judged("one line in space", j, 3, 0, 1, 0, 0, 1, 0);
            noWay("one line in space", j, 3);
        }
    }

    /** What is SEEN in one line has WIDTH 0 by one WAY, and all are LOW and HIGH. */
    private static void seenInOneLine() {
        ZoneJudge j = told(0, 1, 5, 2, 0, 7, 4, -1, 1, -2, 2, 2);
        judged("one line", j, 2, 0, 1, 15, 15, 1, 0);
        ways("one line", j, 2, 1, 2);
        due.is("not along x", j.judge(0, 0) > 0 ? 1 : 0, 1);
        j.move(3, 1, 3);
        due.is("no more", j.judge(2, 0) > 0 ? 1 : 0, 1);
    }

    /** POINTS that are all in one line have WIDTH 0, and no WAY. */
    private static void inOneLineInSpace() {
        ZoneJudge j = new ZoneJudge();
        for (int k = -5; k < 5; k++) j.add(3 * k, -2 * k, k);
        judged("ten in one line", j, 3, 0, 1, 0, 0, 1, 0);
        noWay("ten in one line", j, 3);
        j.move(0, 2, -4);
        judged("one beside it", j, 3, 0, 1, 1023, 1023, 1, 0);
        ways("one beside it", j, 3, 2, 3, 0);
        narrower("one beside it", j, 3, 0, 0, 1);
        j.out(0);
        noWay("without it", j, 3);
    }

    private static void inOnePlaneInSpace() {
        ZoneJudge j = told(0, 0, 0, 9, 0, 0, 0, 9, 0, 9, 9, 0);
        j.tolerance(0);
        judged("one plane", j, 3, 0, 1, 15, 15, 1, 0);
        ways("one plane", j, 3, 0, 0, 1);
        j.move(3, 2, 1);
        due.is("one of them off it", j.judge(3, 4), 0);
        due.is("which one: of like ones the least", j.judge(3, 5), 0);
    }

    /** a above 0, or a 0 and b 1; in space the first of them that isn't 0 above 0. */
    private static void waySigns() {
        ways("flat", told(0, 0, 0, 5, 0, 0), 2, 0, 1);
        ways("flat, told the other way round", told(5, 0, 0, 0, 0, 0), 2, 0, 1);
        ways("upright", told(0, 0, 0, 0, 5, 0), 2, 1, 0);
        ways("upright, told the other way round", told(0, 5, 0, 0, 0, 0), 2, 1, 0);
        ways("upwards", told(0, 0, 0, 2, 3, 0), 2, 3, -2);
        ways("downwards", told(0, 3, 0, 2, 0, 0), 2, 3, 2);
        ways("square to x", told(1, 0, 0, 1, 1, 0, 1, 0, 1), 3, 1, 0, 0);
        ways("square to y", told(0, 1, 0, 1, 1, 0, 0, 1, 1), 3, 0, 1, 0);
        ways("square to z", told(0, 0, 1, 1, 0, 1, 0, 1, 1), 3, 0, 0, 1);
        ways("a 0, b above 0", told(0, 0, 0, 5, 0, 0, 0, 2, 1), 3, 0, 1, -2);
        ways("a above 0", told(0, 0, 0, 0, 5, 0, 2, 0, -1), 3, 1, 0, 2);
        ways("b below 0", told(0, 0, 0, 0, 0, 5, 1, 2, 0), 3, 2, -1, 0);
    }

    /** Of like ones with the least a, of these the least b. */
    private static void leastWayFlat() {
        ZoneJudge square = told(0, 0, 0, 3, 0, 0, 3, 3, 0, 0, 3, 0);
        ways("a 0 ahead of 1", square, 2, 0, 1);
        judged("a 0 ahead of 1", square, 2, 9, 1, 3, 12);
        ZoneJudge onCorner = told(0, 0, 0, 1, 1, 0, 0, 2, 0, -1, 1, 0);
        ways("b -1 ahead of 1", onCorner, 2, 1, -1);
        judged("b -1 ahead of 1", onCorner, 2, 2, 1, 12, 3);
        // by (1, 2), by (2, -1): a square on two steps aside, one up
        ZoneJudge turned = told(0, 0, 0, 2, -1, 0, 3, 1, 0, 1, 2, 0);
        ways("a 1 ahead of 2", turned, 2, 1, 2);
        judged("a 1 ahead of 2", turned, 2, 5, 1, 3, 12);
        ZoneJudge mirrored = told(0, 0, 0, 1, -2, 0, 3, -1, 0, 2, 1, 0);
        ways("a 1 ahead of 2, b below 0", mirrored, 2, 1, -2);
    }

    /** Of like ones with the least a, of these the least b, then c. */
    private static void leastWayInSpace() {
        ZoneJudge cube = cube(2);
        ways("cube: least a, then b", cube, 3, 0, 0, 1);
        judged("cube", cube, 3, 4, 1, 15, 240);
        ZoneJudge eight = told(1, 0, 0, -1, 0, 0, 0, 1, 0, 0, -1, 0, 0, 0, 1, 0, 0, -1);
        ways("eight faces: least b, then c", eight, 3, 1, -1, -1);
        judged("eight faces", eight, 3, 4, 3, 2 + 4 + 16, 1 + 8 + 32);
        // a long square bar along x, on its edge: a is 0, b 1 by both
        ZoneJudge bar = told(-9, 1, 0, 9, 1, 0, -9, -1, 0, 9, -1, 0, -9, 0, 1, 9, 0, 1, -9, 0, -1, 9, 0, -1);
        ways("bar: least c", bar, 3, 0, 1, -1);
        // along z, on its edge: a is 1 by both
        ZoneJudge post = told(1, 0, -9, 1, 0, 9, -1, 0, -9, -1, 0, 9, 0, 1, -9, 0, 1, 9, 0, -1, -9, 0, -1, 9);
        ways("post: least b", post, 3, 1, -1, 0);
        // along y, on its edge: a is 1, b 0 by both
        ZoneJudge beam = told(1, -9, 0, 1, 9, 0, -1, -9, 0, -1, 9, 0, 0, -9, 1, 0, 9, 1, 0, -9, -1, 0, 9, -1);
        ways("beam: least c", beam, 3, 1, 0, -1);
    }

    /** With no common divisor but 1. */
    private static void noCommonDivisor() {
        ways("by 30", told(-15, -15, 0, 15, 15, 0), 2, 1, -1);
        ways("by 6", told(-6, 0, 0, 6, 6, 0), 2, 1, -2);
        ways("by 4", told(0, 0, 0, 4, 0, 0, 0, 4, 0, 0, 0, 4), 3, 1, 1, 1);
        ways("by 900", told(-15, -15, 0, 15, -15, 0, -15, 15, 0), 3, 0, 0, 1);
        ways("two of them even", told(0, 0, 0, 2, 4, 3, -1, -2, 9), 3, 2, -1, 0);
    }

    /** A WAY's number and 2000 together is above 0 for the greatest ones, too. */
    private static void greatWays() {
        ways("as steep as can be", told(-15, -15, 0, 14, 15, 0), 2, 30, -29);
        ways("nearly upright", told(0, -15, 0, 1, 15, 0), 2, 30, -1);
        ways("nearly flat", told(-15, 0, 0, 15, 1, 0), 2, 1, -30);
        // AB is (1, 30, -29), CD (0, 29, 30): square to both is (1741, -30, 29); 871 apart along it
        ZoneJudge j = told(0, -15, 15, 1, 15, -14, 1, -15, -15, 1, 14, 15);
        ways("two lines across", j, 3, 1741, -30, 29);
        judged("two lines across", j, 3, 871, 3482, 3, 12, 1);
        // AD is (18, 0, 0), BC (0, 18, 0), one above the other
        ZoneJudge cross = told(-9, 0, 0, 0, -9, 1, 0, 9, 1, 9, 0, 0);
        ways("the first and the last across the others", cross, 3, 0, 0, 1);
        judged("the first and the last across the others", cross, 3, 1, 1, 9, 6);
        ZoneJudge k = told(15, 0, -15, -14, 1, 15, -15, 1, -15, 15, 1, 14);
        ways("two lines across, by y", k, 3, 29, 1741, -30);
    }

    /** LOW have the least, HIGH the greatest, by that WAY. */
    private static void lowAndHigh() {
        ZoneJudge j = told(0, 1, 0, 9, 0, 0, 4, 1, 0, 0, 0, 0, 7, 1, 0, 3, 0, 4);
        judged("by (0, 1)", j, 2, 1, 1, 2 + 8 + 32, 1 + 4 + 16);
        j = told(1, 0, 0, 0, 9, 0, 1, 4, 0, 0, 0, 0);
        judged("by (1, 0)", j, 2, 1, 1, 2 + 8, 1 + 4);
        j = told(1, 3, 3, 0, 0, 9, 0, 0, 0, 0, 9, 0);
        judged("one alone is high", j, 3, 1, 1, 14, 1);
        j.move(0, 0, -1);
        judged("one alone is low", j, 3, 1, 1, 1, 14);
    }

    private static void highAskedFirst() {
        ZoneJudge j = told(0, 0, 0, 9, 0, 0, 5, 1, 0);
        due.is("high, ahead of all else", j.judge(2, 3), 4);
        due.is("then low", j.judge(2, 2), 3);
        due.is("high of another", j.judge(1, 3), 7);
        due.is("high again", j.judge(2, 3), 4);
    }

    /** Sets are bits: POINT 9 is 512. */
    private static void tenthPoint() {
        ZoneJudge j = nineAndOne();
        judged("nine and one", j, 2, 25, 1, 511, 512, 0, 9);
        j.move(9, 1, -5);
        judged("below them", j, 2, 25, 1, 512, 511, 0, 9);
    }

    /** GOOD, if 100 times its WIDTH is no more than TOLERANCE squared. */
    private static void goodAtTheBound() {
        ZoneJudge j = told(0, 0, 0, 4, 0, 0, 0, 3, 0);
        good("576 by 1", j, 2, 24);
        // 16 by 3: 533.3
        j = told(0, 0, 0, 4, 0, 0, 0, 4, 0, 0, 0, 4);
        good("1600 by 3", j, 3, 24);
        j = told(0, 0, 0, 1, 0, 0, 0, 1, 0, 1, 1, 0);
        good("100 by 1, as at first", j, 2, 10);
        j = told(0, 0, 0, 15, 0, 0, 7, 1, 0, -15, 0, 0, 3, 0, 4);
        good("one apart", j, 2, 10);
    }

    /** Whether t is the least TOLERANCE by which it's GOOD. */
    private static void good(String what, ZoneJudge j, int by, int t) {
        j.tolerance(t - 1);
        due.is(what + ", below", j.judge(by, 4), 0);
        j.tolerance(t);
        due.is(what + ", at", j.judge(by, 4), 1);
        j.tolerance(t + 1);
        due.is(what + ", above", j.judge(by, 4), 1);
        j.tolerance(0);
        due.is(what + ", none", j.judge(by, 4), 0);
        j.tolerance(999);
        due.is(what + ", most", j.judge(by, 4), 1);
    }

    private static void goodWithoutTolerance() {
        ZoneJudge j = told(0, 0, 0, 15, 0, 0, 7, 0, 0);
        j.tolerance(0);
        for (int by = 0; by < 4; by++) due.is("width 0 is good by tolerance 0", j.judge(by, 4), 1);
        j.move(2, 1, 1);
        due.is("no more along z", j.judge(2, 4), 0);
        due.is("still along y", j.judge(1, 4), 1);
        due.is("still in space", j.judge(3, 4), 1);
    }

    /** The widest there can be: all corners of the room. */
    private static void goodAtMost() {
        ZoneJudge j = new ZoneJudge();
        for (int k = 0; k < 8; k++) j.add(k % 2 * 30 - 15, k / 2 % 2 * 30 - 15, k / 4 * 30 - 15);
        for (int by = 0; by < 4; by++) {
            due.is("widest, above", j.judge(by, 0), 900);
            due.is("widest, below", j.judge(by, 1), 1);
            good("widest", j, by, 300);
        }
        judged("low, high", j, 3, 900, 1, 15, 240);
    }

    /** WORST: of like ones the least number; it need not touch. */
    private static void worstOfLikeOnes() {
        due.is("all alike", told(0, 0, 0, 5, 0, 0, 0, 5, 0).judge(2, 5), 0);
        due.is("all alike in space", told(0, 0, 0, 5, 0, 0, 0, 5, 0).judge(3, 5), 0);
        ZoneJudge j = told(4, 0, 0, 0, 0, 0, 8, 0, 0, 2, 3, 0, 6, 3, 0);
        for (int k = 0; k < 5; k++) narrower("as wide without any", j, 2, k, 9, 1);
        due.is("as wide without any: the least", j.judge(2, 5), 0);
        // 11 high, and 9 wide; without the one above or the one below 6 high
        j = told(0, 0, 0, 9, 0, 0, 4, -5, 0, 0, 1, 0, 4, 6, 0, 9, 1, 0);
        narrower("without the one below", j, 2, 2, 36, 1);
        narrower("without the one above", j, 2, 4, 36, 1);
        due.is("of these two the least", j.judge(2, 5), 2);
        j.move(4, 1, 7);
        due.is("the one above is further", j.judge(2, 5), 4);
        j = told(0, 0, 0, 9, 0, 0, 5, 1, 0, 5, 9, 0, 5, 9, 1);
        // these two are SEEN in one place: without one of them the other stays
        due.is("one of two is no help", j.without(2, 3, 0), j.judge(2, 0));
        due.is("nor the other", j.without(2, 4, 0), j.judge(2, 0));
        due.is("the tenth", nineAndOne().judge(2, 5), 9);
        due.is("the first", told(4, 5, 0, 0, 0, 0, 1, 0, 0, 2, 0, 0).judge(2, 5), 0);
        due.is("one point alone", told(3, 3, 3).judge(3, 5), 0);
    }

    /** Each of ten may be the WORST, by a band and by the slab. */
    private static void worstOfEach() {
        for (int at = 0; at < 10; at++) {
            ZoneJudge j = new ZoneJudge();
            for (int k = 0; k < 10; k++) j.add(k, k == at ? 5 : 0, k * k % 7);
            due.is("worst of a band", j.judge(2, 5), at);
            due.is("worst of the slab", j.judge(3, 5), at);
            narrower("without the worst", j, 2, at, 0, 1);
            narrower("without the worst", j, 3, at, 0, 1);
        }
    }

    /** 0 a, 1 b, 2 c, of JUDGE 3 alone; NONE: no WAY. */
    private static void wayBounds() {
        ZoneJudge j = told(0, 0, 0, 1, 2, 3, 3, 2, 1);
        for (int by : new int[] {-1, 4, MIN, MAX}) due.is("judge " + by, j.way(by, 0), BAD);
        for (int by = 0; by < 4; by++) {
            for (int k : new int[] {-1, 3, MIN, MAX}) due.is("k " + k, j.way(by, k), BAD);
        }
        for (int by = 0; by < AXES; by++) due.is("no c by " + by, j.way(by, 2), BAD);
        ways("c by 3", j, 3, 1, -2, 1);
        ZoneJudge none = new ZoneJudge();
        for (int by = 0; by < AXES; by++) due.is("bad ahead of none", none.way(by, 2), BAD);
        due.is("bad ahead of none", none.way(3, 3), BAD);
        due.is("none", none.way(3, 2), NONE);
    }

    private static void withoutBounds() {
        ZoneJudge j = told(0, 0, 0, 4, 0, 0, 0, 3, 0);
        for (int by : new int[] {-1, 4, MIN, MAX}) due.is("judge " + by, j.without(by, 0, 0), BAD);
        for (int k : new int[] {-1, 3, MIN, MAX}) due.is("k " + k, j.without(2, k, 0), BAD);
        for (int what : new int[] {-1, 2, MIN, MAX}) due.is("what " + what, j.without(2, 0, what), BAD);
        narrower("the last", j, 2, 2, 0, 1);
        for (int by = 0; by < 4; by++) due.is("no points", new ZoneJudge().without(by, 0, 1), BAD);
    }

    /** None, one, two are left; or what is left is SEEN in one place, or lies in one line. */
    private static void withoutFew() {
        for (int by = 0; by < 4; by++) {
            narrower("none left", told(1, 2, 3), by, 0, 0, 1);
            narrower("one left", told(1, 2, 3, 4, 5, 7), by, 1, 0, 1);
            narrower("two left", told(1, 2, 3, 4, 5, 7, 0, 0, 9), by, 1, 0, 1);
            narrower("three in one line left", told(1, 1, 1, 2, 2, 2, 9, 8, 0, 3, 3, 3), by, 2, 0, 1);
        }
        ZoneJudge j = told(1, 1, 1, 1, 1, 2, 9, 8, 0, 1, 1, 3);
        narrower("one place left", j, 2, 2, 0, 1);
        narrower("one place and one left", j, 2, 0, 0, 1);
        narrower("three left in space", told(0, 0, 0, 4, 0, 0, 0, 4, 0, 0, 0, 4), 3, 3, 0, 1);
    }

    /** Without a POINT that touches nothing it's as wide as with it. */
    private static void withoutOneInside() {
        for (int at = 0; at < 5; at++) {
            int[][] square = {{0, 0}, {6, 0}, {6, 6}, {0, 6}};
            ZoneJudge j = new ZoneJudge();
            for (int k = 0, corner = 0; k < 5; k++) {
                int[] place = k == at ? new int[] {2, 3} : square[corner++];
                j.add(place[0], place[1], 0);
            }
            judged("one inside", j, 2, 36, 1);
            narrower("one inside", j, 2, at, 36, 1);
        }
        for (int at = 0; at < 9; at++) {
            ZoneJudge j = new ZoneJudge();
            for (int k = 0, corner = 0; k < 9; k++) {
                if (k == at) {
                    j.add(2, 3, 1);
                } else {
                    j.add(corner % 2 * 6, corner / 2 % 2 * 6, corner / 4 * 6);
                    corner++;
                }
            }
            judged("one inside", j, 3, 36, 1);
            narrower("one inside", j, 3, at, 36, 1);
        }
    }

    private static void withoutChangesNothing() {
        ZoneJudge j = told(0, 0, 0, 4, 0, 0, 0, 3, 0);
        narrower("without", j, 2, 0, 0, 1);
        due.is("all stay", j.count(0), 3);
        due.is("nothing to be undone", j.count(2), 3);
        judged("as ahead", j, 2, 144, 25, 1, 6, 0, 0);
    }

    /** What was judged ahead of a change is no answer behind it. */
    private static void judgedAnew() {
        ZoneJudge j = told(0, 0, 0, 4, 0, 0, 0, 3, 0);
        judged("at first", j, 2, 144, 25, 1, 6, 0, 0);
        typed(j, "1,1,1;5,1,1;5,2,1");
        j.read();
        judged("by a text of all others", j, 2, 16, 17, 5, 2);
        j.undo();
        judged("undone", j, 2, 144, 25, 1, 6);
        j.image();
        j.move(1, 0, 3);
        judged("moved", j, 2, 9, 2, 1, 6);
        j.restore();
        judged("restored", j, 2, 144, 25, 1, 6);
        j.out(0);
        judged("out", j, 2, 0, 1, 3, 3);
        j.add(0, 0, 0);
        judged("come", j, 2, 144, 25, 4, 3);
        j.tolerance(24);
        due.is("tolerance told", j.judge(2, 4), 1);
        j.undo();
        due.is("tolerance undone", j.judge(2, 4), 0);
        becomesNarrow();
    }

    /** From a wide one to one place, to one line, to nothing. */
    private static void becomesNarrow() {
        for (int by = 0; by < 4; by++) {
            for (String text : new String[] {"5,5,5", "5,5,5;5,5,6", "5,5,5;5,6,5", "5,5,5;6,5,5", "1,1,1;2,2,2;3,3,3"}) {
                ZoneJudge j = cube(6);
                judged("wide", j, by, 36, 1);
                narrower("wide", j, by, 0, 36, 1);
                typed(j, text);
                j.read();
                judged("then <" + text + ">", j, by, 0, 1);
                due.is("then <" + text + "> is good", j.judge(by, 4), 1);
                narrower("then <" + text + ">", j, by, 0, 0, 1);
                j.undo();
                judged("wide again", j, by, 36, 1);
            }
            ZoneJudge j = cube(6);
            judged("wide", j, by, 36, 1);
            while (j.count(0) > 0) j.out(0);
            judged("then none", j, by, 0, 1, 0, 0, 1, NONE);
            noWay("then none", j, by);
        }
    }

    /** Fractions are in lowest terms; 0 is 0 by 1. */
    private static void widthFractions() {
        judged("64 by 2", told(0, 0, 0, 4, 4, 0, 0, 8, 0, -4, 4, 0), 2, 32, 1);
        judged("1296 by 45", told(0, 0, 0, 6, 3, 0, 0, 6, 0, 6, 9, 0), 2, 144, 5);
        narrower("0 by 1", told(0, 0, 0, 6, 3, 0, 1, 9, 0), 2, 2, 0, 1);
        narrower("16 by 8", told(0, 0, 0, 2, 2, 0, 0, 2, 0, 9, -9, 0), 2, 3, 2, 1);
    }

    private static void lostBounds() {
        ZoneJudge j = told(0, 0, 0, 4, 0, 0, 0, 3, 0);
        for (int by : new int[] {-1, 3, 4, MIN, MAX}) due.is("judge " + by, j.lost(by, 5, 0), BAD);
        for (int c : new int[] {-1, 11, MIN, MAX}) due.is("c " + c, j.lost(2, c, 0), BAD);
        for (int what : new int[] {-1, 2, MIN, MAX}) due.is("what " + what, j.lost(2, 5, what), BAD);
        odds("three, half", j, 2, 5, 7, 8);
        due.is("all stay", j.count(0), 3);
        due.is("nothing to be undone", j.count(2), 3);
    }

    /** 0 of 10: all stay; 10 of 10: none does, and that is GOOD. */
    private static void lostCertain() {
        ZoneJudge j = told(0, 0, 0, 4, 0, 0, 0, 3, 0);
        odds("not good", j, 2, 0, 0, 1);
        odds("not good", j, 2, 10, 1, 1);
        odds("good", j, 1, 0, 1, 1);
        odds("good", j, 1, 10, 1, 1);
        j = tenCorners();
        j.tolerance(0);
        odds("ten", j, 2, 0, 0, 1);
        odds("ten", j, 2, 10, 1, 1);
    }

    private static void lostFew() {
        ZoneJudge none = new ZoneJudge(), one = told(1, 2, 3), two = told(1, 2, 3, 4, -5, 9);
        none.tolerance(0);
        one.tolerance(0);
        two.tolerance(0);
        for (int by = 0; by < AXES; by++) {
            for (int c = 0; c <= 10; c++) {
                odds("no points", none, by, c, 1, 1);
                odds("one point", one, by, c, 1, 1);
                odds("two points", two, by, c, 1, 1);
            }
        }
    }

    /** In lowest terms, beyond what an int holds, too. */
    private static void lostFractions() {
        ZoneJudge j = nineAndOne();
        j.tolerance(0);
        // good: the tenth is lost, or it's there and at most one of the nine
        odds("nine and one", j, 2, 1, 500000369L, 5000000000L);
        odds("nine and one", j, 2, 3, 1501515591L, 5000000000L);
        odds("nine and one", j, 2, 9, 4887420489L, 5000000000L);
        // good: at most two are there
        j = tenCorners();
        j.tolerance(0);
        odds("ten corners", j, 2, 1, 467, 1250000000L);
        odds("ten corners", j, 2, 9, 1162261467L, 1250000000L);
        odds("ten corners, half", j, 2, 5, 7, 128);
        // good: not all three are there
        j = told(0, 0, 0, 9, 0, 0, 0, 9, 0);
        odds("three", j, 2, 1, 271, 1000);
        odds("three", j, 2, 2, 61, 125);
        odds("three", j, 2, 9, 999, 1000);
    }

    private static void lostByTolerance() {
        ZoneJudge j = told(0, 0, 0, 4, 0, 0, 0, 3, 0);
        j.tolerance(23);
        odds("just too wide", j, 2, 5, 7, 8);
        j.tolerance(24);
        odds("just good", j, 2, 5, 1, 1);
        j.tolerance(999);
        odds("most", j, 2, 0, 1, 1);
        j.tolerance(0);
        odds("least again", j, 2, 5, 7, 8);
        odds("least again", j, 2, 0, 0, 1);
        j.add(4, 3, 0);
        odds("four", j, 2, 5, 11, 16);
        j.out(0);
        odds("three again", j, 2, 5, 7, 8);
    }

    /** The same bound as of GOOD: 100 times WIDTH, TOLERANCE squared. */
    private static void lostAtTheBound() {
        ZoneJudge j = told(-15, -15, 0, 15, -15, 0, -15, 15, 0, 15, 15, 0);
        j.tolerance(299);
        odds("all too wide", j, 2, 0, 0, 1);
        // three of them are 450 wide, squared
        odds("three are good", j, 2, 5, 15, 16);
        j.tolerance(300);
        odds("all just good", j, 2, 0, 1, 1);
        j.tolerance(213);
        odds("three just good", j, 2, 5, 15, 16);
        j.tolerance(212);
        odds("three just too wide", j, 2, 5, 11, 16);
    }

    /** Two that are SEEN in one place are one place, as long as one of them is left. */
    private static void lostSeenInOnePlace() {
        ZoneJudge j = told(0, 0, 0, 0, 0, 1, 9, 0, 0, 0, 9, 0);
        j.tolerance(0);
        odds("not good", j, 2, 0, 0, 1);
        // not good: both others are left, and one of the two at least
        odds("half", j, 2, 5, 13, 16);
        odds("along y two are in one place, too", j, 1, 5, 13, 16);
        odds("2 of 10", j, 2, 2, 241, 625);
    }

    private static void lostOfNeighbours() {
        ZoneJudge j = told(0, 0, 0, 1, 0, 0, 0, 1, 0, 1, 1, 0);
        odds("one by one", j, 2, 0, 1, 1);
        j.tolerance(9);
        // three of them are half as wide, squared: 50
        odds("not all of them", j, 2, 5, 15, 16);
        j.tolerance(7);
        odds("no three of them", j, 2, 5, 11, 16);
        ZoneJudge pair = told(0, 0, 0, 1, 0, 0, 0, 0, 1, 1, 0, 1, 2, 0, 0);
        pair.tolerance(0);
        odds("in one line, a step apart", pair, 2, 0, 1, 1);
    }

    /** Whichever of three is told first, and whichever way round. */
    private static void lostInAnyOrder() {
        int[][] orders = {{0, 1, 2}, {0, 2, 1}, {1, 0, 2}, {1, 2, 0}, {2, 0, 1}, {2, 1, 0}};
        int[][] places = {{0, 0}, {9, 0}, {4, 1}};
        for (int[] order : orders) {
            ZoneJudge j = new ZoneJudge();
            for (int k : order) j.add(places[k][0], places[k][1], 0);
            odds("just good", j, 2, 0, 1, 1);
            j.tolerance(9);
            odds("just too wide", j, 2, 0, 0, 1);
        }
    }
}
