import java.util.List;

/**
 * What is refused changes nothing, but as told; nor does what only asks: behind each such call the object is like
 * one that was told the same without it.
 */
public final class RefusedTest extends Setup {
    private interface State {
        ZoneJudge make();
    }

    private interface Call {
        long on(ZoneJudge j);
    }

    public static void main(String[] args) {
        portraitsDiffer();
        refusedNew();
        refusedBusy();
        refusedFull();
        refusedSheets();
        faults();
        asked();
        due.end();
    }

    private static ZoneJudge fresh() {
        return new ZoneJudge();
    }

    /** Three POINTS, five known, an IMAGE of other times, letters on THE TAPE, three SHEETS, the last one empty. */
    private static ZoneJudge busy() {
        ZoneJudge j = busyWithoutTape();
        typed(j, "1,2,3;4,5");
        return j;
    }

    private static ZoneJudge busyWithoutTape() {
        ZoneJudge j = told(5, 5, 5, 6, 6, 6);
        j.seed(99);
        j.image();
        j.add(1, -2, 3);
        j.tolerance(44);
        j.seed(77);
        j.move(0, 1, -9);
        filled(j, 0, 0, 3, 1, 2, 16);
        filled(j, 1, 1, 4, -15, 15, 3, 7);
        j.sheet(2, 3, 0);
        return j;
    }

    /**
     * Ten POINTS, six known, THE TAPE full, all SHEETS full, an IMAGE of six known. Each item differs from the next,
     * so that one that goes astray is seen; a film tells them by few calls, for the portrait needs most of the 512.
     */
    private static ZoneJudge full() {
        ZoneJudge j = tenCorners();
        j.image();
        j.tolerance(0);
        j.seed(MAX);
        for (int k = 0; k < 90; k++) j.type('1');
        for (int s = 0; s < 4; s++) {
            filled(j, s, s, 24, 2, 16, 7, -1);
            j.film(2, s, s, 4);
        }
        return j;
    }

    private static void refused(String what, State state, Call call, long want) {
        for (int part = 0; part < Portrait.PARTS; part++) {
            ZoneJudge j = state.make();
            due.is(what, call.on(j), want);
            List<Long> ahead = Portrait.of(state.make(), part), behind = Portrait.of(j, part);
            due.isTrue(what + " changes nothing, part " + part + ": " + ahead + " " + behind, ahead.equals(behind));
        }
    }

    /** A portrait is no use, if it doesn't tell a change. */
    private static void portraitsDiffer() {
        differs("add", 0, j -> j.add(0, 0, 0));
        differs("out", 0, j -> j.out(0));
        differs("move", 0, j -> j.move(2, 2, 0));
        differs("tolerance", 0, j -> j.tolerance(45));
        differs("drift", 0, j -> j.drift(1));
        differs("seed", 0, j -> j.seed(78));
        differs("undo", 1, j -> j.undo());
        differs("a turn too many", 1, j -> { j.tolerance(5); return j.tolerance(44); });
        differs("image", 2, j -> j.image());
        differs("type", 3, j -> j.type(' '));
        differs("read", 3, j -> j.read());
        differs("item", Portrait.SHEET_PART + 1, j -> j.item(1, 1, 3, 8));
        differs("a long", Portrait.SHEET_PART + 2, j -> { j.sheet(2, 3, 1); return j.item(2, 3, 0, 1L << 32); });
        differs("film", Portrait.SHEET_PART + 1, j -> { j.out(0); j.out(0); return j.film(0, 1, 1, 0); });
        differs("sheet", Portrait.SHEET_PART + 3, j -> j.sheet(3, 0, 0));
        differs("another length", Portrait.SHEET_PART + 2, j -> j.sheet(2, 3, 1));
        differs("another lane", Portrait.SHEET_PART + 2, j -> j.sheet(2, 2, 0));
        differs("drop", Portrait.SHEET_PART + 2, j -> j.drop(2));
        differs("the last item", Portrait.SHEET_PART + 1, j -> j.item(1, 1, 3, -7));
        differs("copy", Portrait.SHEET_PART + 1, j -> j.copy(1, 0, 1, 1, 1));
    }

    private static void differs(String what, int part, Call call) {
        ZoneJudge j = busy();
        call.on(j);
        due.isTrue(what + " is seen", !Portrait.of(busy(), part).equals(Portrait.of(j, part)));
    }

    private static void refusedNew() {
        State s = RefusedTest::fresh;
        refused("new: add", s, j -> j.add(16, 0, 0), BAD);
        refused("new: out", s, j -> j.out(0), BAD);
        refused("new: move", s, j -> j.move(0, 0, 0), BAD);
        refused("new: tolerance", s, j -> j.tolerance(1000), BAD);
        refused("new: tolerance as it is", s, j -> j.tolerance(10), NOT);
        refused("new: hull", s, j -> j.hull(0, 0), NONE);
        refused("new: edge", s, j -> j.edge(0, 0, 0), NONE);
        refused("new: count", s, j -> j.count(3), NONE);
        refused("new: judge", s, j -> j.judge(0, 5), NONE);
        refused("new: way", s, j -> j.way(3, 0), NONE);
        refused("new: without", s, j -> j.without(0, 0, 0), BAD);
        refused("new: lost", s, j -> j.lost(3, 0, 0), BAD);
        refused("new: type", s, j -> j.type(31), BAD);
        refused("new: read", s, j -> j.read(), -20);
        refused("new: drift", s, j -> j.drift(0), BAD);
        refused("new: undo", s, j -> j.undo(), NONE);
        refused("new: seed", s, j -> j.seed(-1), BAD);
        refused("new: restore", s, j -> j.restore(), NONE);
        refused("new: corners", s, j -> j.corners(0, 0, 0, 1), NULL);
        refused("new: film", s, j -> j.film(0, 0, 0, 0), NULL);
        refused("new: sheet", s, j -> j.sheet(0, 0, -1), SIZE);
        refused("new: sheet", s, j -> j.sheet(0, 0, 25), BAD);
        refused("new: drop", s, j -> j.drop(0), NULL);
        refused("new: item", s, j -> j.item(0, 0, 0, 1), NULL);
        refused("new: copy", s, j -> j.copy(0, 0, 1, 0, 0), NULL);
    }

    private static void refusedBusy() {
        State s = RefusedTest::busy;
        refused("add, too far", s, j -> j.add(0, 0, -16), BAD);
        refused("add, there", s, j -> j.add(6, 6, 6), NOT);
        refused("out, behind", s, j -> j.out(3), BAD);
        refused("out, below", s, j -> j.out(-1), BAD);
        refused("move, no point", s, j -> j.move(3, 0, 0), BAD);
        refused("move, no axis", s, j -> j.move(0, 3, 0), BAD);
        refused("move, too far", s, j -> j.move(0, 0, 16), BAD);
        refused("move, so", s, j -> j.move(0, 1, -9), NOT);
        refused("tolerance, too great", s, j -> j.tolerance(1000), BAD);
        refused("tolerance, below", s, j -> j.tolerance(-1), BAD);
        refused("tolerance, so", s, j -> j.tolerance(44), NOT);
        refused("point", s, j -> j.point(3, 0), BAD);
        refused("hull, no axis", s, j -> j.hull(3, 0), BAD);
        refused("hull, no corner", s, j -> j.hull(0, 3), NONE);
        refused("edge, no edge", s, j -> j.edge(0, 3, 0), NONE);
        refused("count", s, j -> j.count(6), BAD);
        refused("judge", s, j -> j.judge(4, 0), BAD);
        refused("way", s, j -> j.way(2, 2), BAD);
        refused("without", s, j -> j.without(0, 3, 0), BAD);
        refused("lost", s, j -> j.lost(0, 11, 0), BAD);
        refused("type", s, j -> j.type(127), BAD);
        refused("drift, none", s, j -> j.drift(0), BAD);
        refused("drift, too many", s, j -> j.drift(41), BAD);
        refused("seed", s, j -> j.seed(MIN), BAD);
        State twins = () -> told(1, 1, 1, 2, 1, 1);
        refused("move, another one is there", twins, j -> j.move(0, 0, 2), NOT);
    }

    private static void refusedFull() {
        State s = RefusedTest::full;
        refused("full: add", s, j -> j.add(0, 0, 9), FULL);
        refused("full: add, there", s, j -> j.add(4, 1, 0), NOT);
        refused("full: add, bad", s, j -> j.add(16, 1, 0), BAD);
        refused("full: out", s, j -> j.out(10), BAD);
        refused("full: type", s, j -> j.type('2'), FULL);
        refused("full: type, bad", s, j -> j.type(31), BAD);
        refused("full: tolerance", s, j -> j.tolerance(0), NOT);
        refused("full: drift", s, j -> j.drift(41), BAD);
        refused("full: seed", s, j -> j.seed(-1), BAD);
        refused("full: film", s, j -> j.film(0, 0, 0, 5), INDEX);
        refused("full: sheet", s, j -> j.sheet(0, 0, 25), BAD);
        refused("full: item", s, j -> j.item(3, 3, 24, 1), INDEX);
        refused("full: copy", s, j -> j.copy(0, 0, 0, 1, 24), INDEX);
    }

    private static void refusedSheets() {
        State s = RefusedTest::busy;
        refused("corners, bad", s, j -> j.corners(0, 0, 0, 11), BAD);
        refused("corners, null", s, j -> j.corners(3, 0, 0, 1), NULL);
        refused("corners, cast", s, j -> j.corners(0, 1, 0, 1), CAST);
        refused("corners, index", s, j -> j.corners(0, 0, 2, 1), INDEX);
        refused("corners, not", s, j -> j.corners(0, 0, 1, 1), NOT);
        refused("film, bad", s, j -> j.film(3, 1, 1, 0), BAD);
        refused("film, null", s, j -> j.film(0, 3, 1, 0), NULL);
        refused("film, cast", s, j -> j.film(0, 1, 0, 0), CAST);
        refused("film, index", s, j -> j.film(0, 1, 1, 0), INDEX);
        refused("sheet, no sheet", s, j -> j.sheet(4, 0, 1), BAD);
        refused("sheet, no lane", s, j -> j.sheet(0, 4, 1), BAD);
        refused("sheet, too many", s, j -> j.sheet(0, 0, 25), BAD);
        refused("sheet, size", s, j -> j.sheet(0, 0, -1), SIZE);
        refused("drop, bad", s, j -> j.drop(4), BAD);
        refused("drop, null", s, j -> j.drop(3), NULL);
        refused("item, bad", s, j -> j.item(0, 4, 0, 1), BAD);
        refused("item, null", s, j -> j.item(3, 0, 0, 1), NULL);
        refused("item, cast", s, j -> j.item(0, 1, 0, 9), CAST);
        refused("item, index", s, j -> j.item(0, 0, 3, 9), INDEX);
        refused("item, index below", s, j -> j.item(0, 0, -1, 9), INDEX);
        refused("copy, bad", s, j -> j.copy(0, 0, 4, 0, 1), BAD);
        refused("copy, null", s, j -> j.copy(0, 0, 3, 0, 1), NULL);
        refused("copy, cast", s, j -> j.copy(0, 0, 1, 0, 1), CAST);
        refused("copy, index", s, j -> j.copy(1, 0, 1, 1, 4), INDEX);
        refused("copy, n below 0", s, j -> j.copy(1, 2, 1, 1, -1), INDEX);
        refused("copy of no item", s, j -> j.copy(1, 0, 1, 2, 0), 0);
    }

    /** THE TAPE is empty then, by a FAULT, too; all else stays. */
    private static void faults() {
        for (String more : new String[] {"", ",", ",16", ",6;1,2,3", ",6x", ",6;", ",106"}) {
            for (int part = 0; part < Portrait.PARTS; part++) {
                ZoneJudge j = busy();
                typed(j, more);
                due.isTrue("a fault: " + more, j.read() <= -20);
                List<Long> ahead = Portrait.of(busyWithoutTape(), part), behind = Portrait.of(j, part);
                due.isTrue("a fault empties the tape alone, part " + part + ": " + more, ahead.equals(behind));
            }
        }
    }

    /** What only asks. */
    private static void asked() {
        State s = RefusedTest::busy;
        refused("asked: point", s, j -> j.point(1, 1), 21);
        refused("asked: hull", s, j -> j.hull(2, 0), 2);
        refused("asked: count", s, j -> j.count(0), 3);
        refused("asked: edge", s, j -> j.edge(2, 0, 2), 1);
        refused("asked: judge", s, j -> j.judge(3, 1), 1);
        refused("asked: worst", s, j -> j.judge(2, 5), 0);
        refused("asked: way", s, j -> j.way(3, 3), BAD);
        refused("asked: without", s, j -> j.without(3, 1, 0), 0);
        refused("asked: lost", s, j -> j.lost(2, 10, 0), 1);
        refused("asked: corners", s, j -> j.corners(1, 1, 0, 2), 3);
        refused("full, asked: lost", RefusedTest::full, j -> j.lost(2, 0, 1), 1);
        refused("full, asked: corners", RefusedTest::full, j -> j.corners(2, 2, 2, 10), 1011);
    }
}
