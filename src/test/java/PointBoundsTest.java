/** Each sentence of the document on POINTS and HULLS (promises 1 to 9) that names a bound, with both its sides. */
public final class PointBoundsTest extends Setup {
    private static final int[] FAR = {16, -16, 17, 31, -31, 256, MAX, MIN};

    public static void main(String[] args) {
        newObject();
        upToTen();
        numberedAsTheyCame();
        noTwoAlike();
        noTwoAlikeMoved();
        addReach();
        moveReach();
        movedTells();
        outBounds();
        pointBounds();
        toleranceBounds();
        seenAlong();
        hullBounds();
        hullOfFew();
        hullBetween();
        hullFirst();
        hullAgainstTheClock();
        hullLeastNumber();
        hullOfTen();
        hullOfNeighbours();
        edgeBounds();
        edgesOfFew();
        edgeBehindTheLast();
        edgeLeastNumber();
        edgeFractions();
        countBounds();
        countOfFew();
        countLeastPair();
        countGreatest();
        lastCall();
        due.end();
    }

    /** A new object: none at first, TOLERANCE 10, THE DRAW 1, nothing on any SHEET. */
    private static void newObject() {
        ZoneJudge j = new ZoneJudge();
        due.is("no points", j.count(0), 0);
        due.is("tolerance at first", j.count(1), 10);
        due.is("nothing known", j.count(2), 0);
        due.is("nothing undone", j.undo(), NONE);
        due.is("no image", j.restore(), NONE);
        due.is("empty tape", j.read(), -20);
        due.is("draw at first", j.seed(1), 1);
        for (int s = 0; s < 4; s++) {
            for (int lane = 0; lane < 4; lane++) due.is("no sheet", j.item(s, lane, 0, 0), NULL);
        }
        j.add(1, 2, 3);
        j.tolerance(9);
        j.sheet(0, 0, 1);
        ZoneJudge other = new ZoneJudge();
        due.is("objects have nothing in common: points", other.count(0), 0);
        due.is("objects have nothing in common: tolerance", other.count(1), 10);
        due.is("objects have nothing in common: sheets", other.drop(0), NULL);
    }

    /** POINTS: up to 10. */
    private static void upToTen() {
        ZoneJudge j = new ZoneJudge();
        for (int k = 1; k <= 10; k++) due.is("point comes", j.add(0, 0, k), k);
        due.is("the 11th", j.add(0, 0, 11), FULL);
        due.is("still ten", j.count(0), 10);
        isAt("the last", j, 9, 0, 0, 10);
        due.is("full, there already", j.add(0, 0, 1), NOT);
        due.is("full, the last is there", j.add(0, 0, 10), NOT);
        due.is("full and bad", j.add(0, 0, 16), BAD);
        due.is("room again", j.out(0), 9);
        due.is("comes behind", j.add(0, 0, 11), 10);
        due.is("full again", j.add(0, 0, 1), FULL);
        isAt("the new last", j, 9, 0, 0, 11);
    }

    /** Numbered 0 on as they came; those behind one that's out move up. */
    private static void numberedAsTheyCame() {
        ZoneJudge j = told(3, 0, 0, 1, 0, 0, 2, 0, 0, -1, 5, 7);
        int[] xs = {3, 1, 2, -1};
        for (int k = 0; k < 4; k++) due.is("as they came", j.point(k, 0), xs[k] + 15);
        due.is("the middle is out", j.out(1), 3);
        isAt("ahead stays", j, 0, 3, 0, 0);
        isAt("behind moves up", j, 1, 2, 0, 0);
        isAt("last moves up", j, 2, -1, 5, 7);
        due.is("no fourth", j.point(3, 0), BAD);
        due.is("the last is out", j.out(2), 2);
        isAt("ahead of the last stays", j, 1, 2, 0, 0);
    }

    /** No two alike; alike in all three alone. */
    private static void noTwoAlike() {
        ZoneJudge j = told(1, 2, 3);
        due.is("alike", j.add(1, 2, 3), NOT);
        due.is("another x", j.add(0, 2, 3), 2);
        due.is("another y", j.add(1, 0, 3), 3);
        due.is("another z", j.add(1, 2, 0), 4);
        due.is("alike the last", j.add(1, 2, 0), NOT);
        due.is("turned round", j.add(3, 2, 1), 5);
        due.is("out", j.out(0), 4);
        due.is("no more alike", j.add(1, 2, 3), 5);
    }

    private static void noTwoAlikeMoved() {
        for (int axis = 0; axis < AXES; axis++) {
            ZoneJudge j = new ZoneJudge();
            int[] other = {1, 1, 1};
            other[axis] = 4;
            j.add(1, 1, 1);
            j.add(other[0], other[1], other[2]);
            due.is("it is so", j.move(0, axis, 1), NOT);
            due.is("another one is there", j.move(0, axis, 4), NOT);
            due.is("the other way", j.move(1, axis, 1), NOT);
            due.is("nothing came of it", j.count(2), 2);
            due.is("beside it", j.move(0, axis, 3), 16);
            due.is("beside it, from above", j.move(0, axis, 5), 18);
            due.is("where it was", j.move(1, axis, 1), 19);
        }
    }

    /** x, y, z, each -15 .. 15. */
    private static void addReach() {
        for (int axis = 0; axis < AXES; axis++) {
            ZoneJudge j = new ZoneJudge();
            for (int v : FAR) due.is("too far " + v, j.add(axis == 0 ? v : 0, axis == 1 ? v : 0, axis == 2 ? v : 0), BAD);
            due.is("none came", j.count(0), 0);
            due.is("most", j.add(axis == 0 ? 15 : 0, axis == 1 ? 15 : 0, axis == 2 ? 15 : 0), 1);
            due.is("least", j.add(axis == 0 ? -15 : 0, axis == 1 ? -15 : 0, axis == 2 ? -15 : 0), 2);
            due.is("most is", j.point(0, axis), 30);
            due.is("least is", j.point(1, axis), 0);
        }
    }

    private static void moveReach() {
        for (int axis = 0; axis < AXES; axis++) {
            ZoneJudge j = told(0, 0, 0);
            for (int v : FAR) due.is("too far " + v, j.move(0, axis, v), BAD);
            isAt("stays", j, 0, 0, 0, 0);
            due.is("most", j.move(0, axis, 15), 15);
            due.is("least", j.move(0, axis, -15), 30);
            due.is("from the least", j.move(0, axis, 14), 0);
        }
        ZoneJudge j = told(0, 0, 0, 1, 0, 0);
        for (int k : new int[] {-1, 2, MIN, MAX}) due.is("no point " + k, j.move(k, 0, 5), BAD);
        for (int axis : new int[] {-1, 3, MIN, MAX}) due.is("no axis " + axis, j.move(0, axis, 5), BAD);
        due.is("bad ahead of not: so", j.move(0, 3, 0), BAD);
        due.is("bad ahead of not: another", j.move(2, 0, 1), BAD);
        due.is("the last one", j.move(1, 0, 5), 16);
        due.is("none to move", new ZoneJudge().move(0, 0, 0), BAD);
    }

    /** What that was, and 15 together. */
    private static void movedTells() {
        ZoneJudge j = told(-15, 0, 15);
        due.is("x was", j.move(0, 0, 1), 0);
        due.is("y was", j.move(0, 1, 2), 15);
        due.is("z was", j.move(0, 2, 3), 30);
        isAt("moved", j, 0, 1, 2, 3);
    }

    private static void outBounds() {
        ZoneJudge j = tenCorners();
        for (int k : new int[] {-1, 10, 11, MIN, MAX}) due.is("no point " + k, j.out(k), BAD);
        due.is("the tenth", j.out(9), 9);
        due.is("no tenth any more", j.out(9), BAD);
        for (int left = 8; left >= 0; left--) due.is("out", j.out(0), left);
        due.is("none", j.out(0), BAD);
        due.is("none below", j.out(-1), BAD);
    }

    private static void pointBounds() {
        ZoneJudge j = told(-15, 15, 0, 1, 2, 3);
        for (int k : new int[] {-1, 2, MIN, MAX}) due.is("no point " + k, j.point(k, 0), BAD);
        for (int axis : new int[] {-1, 3, MIN, MAX}) due.is("no axis " + axis, j.point(0, axis), BAD);
        due.is("least", j.point(0, 0), 0);
        due.is("most", j.point(0, 1), 30);
        due.is("last of the last", j.point(1, 2), 18);
        due.is("none", new ZoneJudge().point(0, 0), BAD);
    }

    /** TOLERANCE: 0 .. 999. */
    private static void toleranceBounds() {
        ZoneJudge j = new ZoneJudge();
        for (int t : new int[] {-1, 1000, MIN, MAX}) due.is("tolerance " + t, j.tolerance(t), BAD);
        due.is("as at first", j.tolerance(10), NOT);
        due.is("nothing came of it", j.count(2), 0);
        due.is("least", j.tolerance(0), 10);
        due.is("least again", j.tolerance(0), NOT);
        due.is("most", j.tolerance(999), 0);
        due.is("most again", j.tolerance(999), NOT);
        due.is("is", j.count(1), 999);
        due.is("two known", j.count(2), 2);
    }

    /** SEEN along AXIS 0 (y, z), along 1 (x, z), along 2 (x, y): u first. */
    private static void seenAlong() {
        int[][] due3 = {{2, 3}, {1, 3}, {1, 2}};
        for (int axis = 0; axis < AXES; axis++) {
            ZoneJudge j = told(1, 2, 3);
            filled(j, 0, 0, 2);
            due.is("film", j.film(axis, 0, 0, 0), 2);
            holds(j, "seen along " + axis, due3[axis][0], due3[axis][1]);
        }
    }

    /** BAD: also k below 0; NONE: there is no such corner. */
    private static void hullBounds() {
        ZoneJudge j = told(0, 0, 0, 3, 0, 1, 0, 3, 2);
        for (int axis : new int[] {-1, 3, MIN, MAX}) due.is("no axis " + axis, j.hull(axis, 0), BAD);
        for (int k : new int[] {-1, -2, MIN}) due.is("k " + k, j.hull(2, k), BAD);
        for (int k : new int[] {3, 4, 10, 11, MAX}) due.is("no corner " + k, j.hull(2, k), NONE);
        for (int k = 0; k < 3; k++) due.is("corner " + k, j.hull(2, k), k);
        due.is("bad ahead of none", j.hull(-1, 3), BAD);
        due.is("bad ahead of none", new ZoneJudge().hull(0, -1), BAD);
    }

    /** POINTS that are SEEN in one place have one corner; in one line two. */
    private static void hullOfFew() {
        for (int axis = 0; axis < AXES; axis++) due.is("none", new ZoneJudge().hull(axis, 0), NONE);
        ZoneJudge j = told(4, 5, 6);
        for (int axis = 0; axis < AXES; axis++) {
            due.is("one", j.hull(axis, 0), 0);
            due.is("one alone", j.hull(axis, 1), NONE);
        }
        j = new ZoneJudge();
        for (int z = 5; z > -5; z--) j.add(2, 2, z);
        due.is("ten in one place", j.hull(2, 0), 0);
        due.is("ten in one place, one corner", j.hull(2, 1), NONE);
        due.is("ten upright: the least v", j.hull(0, 0), 9);
        due.is("ten upright: the greatest v", j.hull(0, 1), 0);
        due.is("ten upright, two corners", j.hull(0, 2), NONE);
        j = told(0, 3, 0, 2, 2, 0, 4, 1, 0, 6, 0, 0);
        due.is("downwards: the least u", j.hull(2, 0), 0);
        due.is("downwards: the greatest u", j.hull(2, 1), 3);
        due.is("downwards, two corners", j.hull(2, 2), NONE);
    }

    /** None lies between two others: not on an EDGE, not inside, not upon a corner. */
    private static void hullBetween() {
        ZoneJudge j = told(2, 0, 0, 0, 0, 0, 4, 0, 0, 4, 2, 0, 4, 4, 0, 2, 2, 0, 0, 4, 0, 0, 2, 0, 2, 4, 0, 4, 4, 1);
        int[] corners = {1, 2, 4, 6, NONE};
        for (int k = 0; k < corners.length; k++) due.is("corner " + k, j.hull(2, k), corners[k]);
        due.is("a little further out", j.move(0, 1, -1), 15);
        int[] more = {1, 0, 2, 4, 6, NONE};
        for (int k = 0; k < more.length; k++) due.is("corner " + k, j.hull(2, k), more[k]);
        due.is("a little further in", j.move(0, 1, 1), 14);
        for (int k = 0; k < corners.length; k++) due.is("corner " + k, j.hull(2, k), corners[k]);
    }

    /** The first one that with the least u, of these the least v. */
    private static void hullFirst() {
        ZoneJudge j = told(5, -15, 0, -3, 4, 0, -3, -4, 0, -3, 0, 0, -2, -9, 0);
        due.is("least u, least v", j.hull(2, 0), 2);
        due.is("then down", j.hull(2, 1), 4);
        due.is("then down", j.hull(2, 2), 0);
        due.is("last: the other of the least u", j.hull(2, 3), 1);
        due.is("no more", j.hull(2, 4), NONE);
    }

    /** Against the clock, u to the right, v upwards: by each AXIS. */
    private static void hullAgainstTheClock() {
        int[][] ring = {{0, 0}, {2, 0}, {2, 2}, {0, 2}};
        for (int axis = 0; axis < AXES; axis++) {
            ZoneJudge j = new ZoneJudge();
            for (int k : new int[] {2, 0, 3, 1}) {
                int u = ring[k][0], v = ring[k][1];
                j.add(axis == 0 ? 7 : u, axis == 0 ? u : axis == 1 ? 7 : v, axis == 2 ? 7 : v);
            }
            int[] corners = {1, 3, 0, 2, NONE};
            for (int k = 0; k < corners.length; k++) due.is("along " + axis + ", corner " + k, j.hull(axis, k), corners[k]);
        }
    }

    /** Each is told by the least POINT that is SEEN there. */
    private static void hullLeastNumber() {
        ZoneJudge j = told(0, 4, 1, 4, 0, 1, 0, 0, 1, 0, 0, 2, 4, 0, 2, 0, 4, 2, 0, 0, 0, 4, 0, 0, 0, 4, 0);
        int[] corners = {2, 1, 0, NONE};
        for (int k = 0; k < corners.length; k++) due.is("corner " + k, j.hull(2, k), corners[k]);
        j.out(0);
        int[] then = {1, 0, 4, NONE};
        for (int k = 0; k < then.length; k++) due.is("then corner " + k, j.hull(2, k), then[k]);
    }

    private static void hullOfTen() {
        ZoneJudge j = tenCorners();
        for (int k = 0; k < 10; k++) due.is("all ten, corner " + k, j.hull(2, k), 9 - k);
        due.is("no eleventh", j.hull(2, 10), NONE);
        due.is("in one line along y", j.hull(1, 0), 9);
        due.is("in one line along y", j.hull(1, 1), 0);
        due.is("in one line along y", j.hull(1, 2), NONE);
    }

    /** Corners that are as close as can be. */
    private static void hullOfNeighbours() {
        ZoneJudge j = told(0, 0, 0, 1, 0, 0, 1, 1, 0, 0, 1, 0);
        int[] square = {0, 1, 2, 3, NONE};
        for (int k = 0; k < square.length; k++) due.is("square, corner " + k, j.hull(2, k), square[k]);
        for (int k = 0; k < 4; k++) due.is("square, edge " + k, j.edge(2, k, 0), 1);
        due.is("two, first", told(0, 1, 0, 0, 0, 0).hull(2, 0), 1);
        due.is("two, second", told(0, 1, 0, 0, 0, 0).hull(2, 1), 0);
    }

    /** BAD: also k below 0; NONE: there is no such EDGE. */
    private static void edgeBounds() {
        ZoneJudge j = told(0, 0, 0, 3, 0, 1, 0, 3, 2);
        for (int axis : new int[] {-1, 3, MIN, MAX}) due.is("no axis " + axis, j.edge(axis, 0, 0), BAD);
        for (int k : new int[] {-1, -2, MIN}) due.is("k " + k, j.edge(2, k, 0), BAD);
        for (int what : new int[] {-1, 3, MIN, MAX}) due.is("what " + what, j.edge(2, 0, what), BAD);
        for (int k : new int[] {3, 4, 10, MAX}) due.is("no edge " + k, j.edge(2, k, 0), NONE);
        due.is("bad ahead of none: axis", j.edge(3, 3, 0), BAD);
        due.is("bad ahead of none: what", j.edge(2, 3, 3), BAD);
        due.is("bad ahead of none: what below", j.edge(2, MAX, -1), BAD);
        due.is("the last edge", j.edge(2, 2, 2), 1);
    }

    /** As many EDGES as corners, but none, if there is one corner alone, one, if there are two. */
    private static void edgesOfFew() {
        for (int what = 0; what < 3; what++) {
            due.is("no corner", new ZoneJudge().edge(0, 0, what), NONE);
            due.is("one corner", told(1, 2, 3).edge(0, 0, what), NONE);
            due.is("one place", told(1, 2, 3, 0, 2, 3).edge(0, 0, what), NONE);
            due.is("two corners, no second edge", told(1, 2, 3, 0, 5, 4).edge(0, 1, what), NONE);
            due.is("one line, no second edge", told(1, 2, 3, 0, 5, 4, 3, 8, 5).edge(0, 1, what), NONE);
        }
        ZoneJudge j = told(1, 2, 3, 0, 5, 4, 3, 8, 5);
        due.is("one line, above", j.edge(0, 0, 0), 0);
        due.is("one line, below", j.edge(0, 0, 1), 1);
        due.is("one line, all are alike: the least", j.edge(0, 0, 2), 0);
        j = told(0, 0, 0, 3, 0, 0, 0, 3, 0);
        for (int k = 0; k < 3; k++) due.is("three corners, edge " + k, j.edge(2, k, 2), new int[] {2, 0, 1}[k]);
        due.is("three corners, no fourth edge", j.edge(2, 3, 2), NONE);
    }

    /** EDGE k goes from corner k to the next one (behind the last: the first). */
    private static void edgeBehindTheLast() {
        ZoneJudge j = tenCorners();
        // the last edge is x and y together 5: furthest are x 0 and -1, by 20, squared, by 2
        due.is("last edge, above", j.edge(2, 9, 0), 200);
        due.is("last edge, below", j.edge(2, 9, 1), 1);
        due.is("last edge, of like ones the least", j.edge(2, 9, 2), 4);
        due.is("no eleventh", j.edge(2, 10, 2), NONE);
        // the first is 9 x and y together -35: furthest is x 4: 72 squared, by 82
        due.is("first edge, above", j.edge(2, 0, 0), 2592);
        due.is("first edge, below", j.edge(2, 0, 1), 41);
        due.is("first edge", j.edge(2, 0, 2), 0);
    }

    /** OPPOSITE: of like ones the least number. */
    private static void edgeLeastNumber() {
        ZoneJudge j = told(4, 3, 0, 0, 0, 0, 4, 0, 0, 0, 3, 0, 2, 3, 0);
        due.is("like ones", j.edge(2, 0, 2), 0);
        due.is("like ones, seen in one place", told(0, 0, 0, 4, 0, 0, 2, 2, 5, 2, 2, 4).edge(2, 0, 2), 2);
        j.move(3, 1, 4);
        due.is("no more alike", j.edge(2, 0, 2), 3);
        due.is("a corner of the edge itself, in one line", told(0, 5, 5, 0, 1, 1).edge(0, 0, 2), 0);
    }

    /** How far the POINT OPPOSITE is, squared: in lowest terms. */
    private static void edgeFractions() {
        ZoneJudge j = told(0, 0, 0, 2, 2, 0, 0, 2, 0);
        due.is("16 by 8, above", j.edge(2, 0, 0), 2);
        due.is("16 by 8, below", j.edge(2, 0, 1), 1);
        j = told(-15, -15, 0, 15, 15, 0, -15, 15, 0);
        due.is("furthest of all, above", j.edge(2, 0, 0), 450);
        due.is("furthest of all, below", j.edge(2, 0, 1), 1);
        j = told(-15, -15, 0, 15, 14, 0, -15, 15, 0);
        due.is("of no common divisor, above", j.edge(2, 0, 0), 810000);
        due.is("of no common divisor, below", j.edge(2, 0, 1), 1741);
    }

    private static void countBounds() {
        ZoneJudge j = told(0, 0, 0, 1, 1, 1);
        for (int what : new int[] {-1, 6, MIN, MAX}) due.is("what " + what, j.count(what), BAD);
        int[] all = {2, 10, 2, 3, 0, 1};
        for (int what = 0; what < 6; what++) due.is("count " + what, j.count(what), all[what]);
        due.is("bad ahead of none", new ZoneJudge().count(6), BAD);
    }

    /** NONE: less than two. */
    private static void countOfFew() {
        for (int what = 3; what < 6; what++) {
            due.is("no points", new ZoneJudge().count(what), NONE);
            due.is("one point", told(1, 2, 3).count(what), NONE);
        }
        ZoneJudge j = told(1, 2, 3, 1, 2, 4);
        due.is("two: way", j.count(3), 1);
        due.is("two: first", j.count(4), 0);
        due.is("two: second", j.count(5), 1);
        j.out(0);
        for (int what = 3; what < 6; what++) due.is("one is left", j.count(what), NONE);
    }

    /** The pair with the least number first, then the least other one. */
    private static void countLeastPair() {
        ZoneJudge j = told(1, 0, 0, 0, 0, 0, 2, 2, 0, 0, 2, 0, 2, 0, 0);
        due.is("two pairs alike", j.count(3), 8);
        due.is("least first", j.count(4), 1);
        due.is("its other one", j.count(5), 2);
        j = told(0, 0, 5, 0, 0, 4, 0, 0, 0, 0, 3, 1);
        due.is("one pair", j.count(4), 0);
        due.is("one pair", j.count(5), 2);
        j = told(0, 0, 0, 3, 0, 0, 0, 3, 0, 0, 0, -3, 0, 0, 1);
        due.is("least first", j.count(4), 1);
        due.is("of these the least other one", j.count(5), 2);
        j = tenCorners();
        j.move(9, 2, 15);
        j.move(8, 2, -15);
        due.is("eighth and ninth", j.count(4), 8);
        due.is("eighth and ninth", j.count(5), 9);
    }

    private static void countGreatest() {
        ZoneJudge j = told(-15, -15, -15, 15, 15, 15);
        due.is("from corner to corner", j.count(3), 2700);
    }

    /** An object is used for at most 512 calls: the last of these is as told, too. */
    private static void lastCall() {
        ZoneJudge j = new ZoneJudge();
        for (int call = 1; call <= 510; call++) due.is("tolerance", j.tolerance(call % 2), call == 1 ? 10 : (call - 1) % 2);
        due.is("call 511", j.undo(), 5);
        due.is("call 512", j.count(1), 1);
    }
}
