import java.util.ArrayList;
import java.util.List;

/**
 * What can be seen of an object, in parts: each part uses the object up, so that each is asked of a new one that was
 * told the same. An item that isn't -15 .. 15 is seen as such, no more: no call tells two of these apart.
 */
final class Portrait {
    /** The first of four parts, one a SHEET: two together would go beyond an object's 512 calls. */
    static final int SHEET_PART = 4;
    static final int PARTS = SHEET_PART + 4;
    private static final int ITEMS = 24;
    private static final int LEVELS = 7;

    private final ZoneJudge judge;
    private final List<Long> seen = new ArrayList<>();

    private Portrait(ZoneJudge judge) {
        this.judge = judge;
    }

    static List<Long> of(ZoneJudge judge, int part) {
        Portrait portrait = new Portrait(judge);
        switch (part) {
            case 0: portrait.scene(); portrait.judged(); break;
            case 1: portrait.past(); break;
            case 2: portrait.image(); break;
            case 3: portrait.tape(); break;
            default: portrait.sheet(part - SHEET_PART, part == SHEET_PART ? 1 : 0);
        }
        return portrait.seen;
    }

    private void scene() {
        for (int what = 0; what < 6; what++) see(judge.count(what));
        for (int k = 0; k < judge.count(0); k++) {
            for (int axis = 0; axis < 3; axis++) see(judge.point(k, axis));
        }
        int draw = judge.seed(0);
        judge.seed(draw);
        see(draw);
    }

    private void judged() {
        for (int by = 0; by < 4; by++) {
            for (int what = 0; what < 6; what++) see(judge.judge(by, what));
            see(judge.way(by, 1));
            see(judge.without(by, 0, 0));
            see(judge.lost(by, 3, 0));
            see(judge.hull(by, 1));
            see(judge.edge(by, 0, 0));
        }
    }

    /** What may be UNDONE, down to the last. */
    private void past() {
        for (int level = 0; level < LEVELS; level++) {
            see(level);
            scene();
            see(judge.undo());
        }
    }

    private void image() {
        see(judge.restore());
        past();
    }

    /** How many letters THE TAPE has, and what it tells, with a little more behind. */
    private void tape() {
        see(judge.type(','));
        see(judge.type('6'));
        see(judge.read());
        scene();
    }

    /** The LANE of a SHEET, its items (by another SHEET, which is lost by it), how many there are. */
    private void sheet(int sheet, int scratch) {
        int lane = laneOf(sheet);
        see(lane);
        if (lane >= 0) items(sheet, lane, scratch);
        see(judge.drop(sheet));
    }

    private int laneOf(int sheet) {
        for (int lane = 0; lane < 4; lane++) {
            int answer = judge.corners(sheet, lane, 0, 1);
            if (answer == ZoneJudge.NULL) return ZoneJudge.NULL;
            if (answer != ZoneJudge.CAST) return lane;
        }
        return ZoneJudge.BAD;
    }

    private void items(int sheet, int lane, int scratch) {
        judge.sheet(scratch, lane, 6);
        judge.item(scratch, lane, 4, 15);
        for (int i = 0; i < ITEMS && judge.copy(sheet, i, scratch, 0, 1) == 1; i++) see(value(scratch, lane));
    }

    /** The scratch holds (item, 0), (middle, 0), (15, 0): the corners tell whether the item is below the middle. */
    private int value(int scratch, int lane) {
        int least = -15, most = 15;
        while (least < most) {
            int middle = Math.floorDiv(least + most, 2);
            judge.item(scratch, lane, 2, middle);
            int corners = judge.corners(scratch, lane, 0, 3);
            if (corners == ZoneJudge.NOT) return 99;
            if (corners == 5) most = middle;
            else least = middle + 1;
        }
        return least;
    }

    private void see(long answer) {
        seen.add(answer);
    }
}
