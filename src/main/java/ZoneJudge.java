/**
 * A judge of measured points: how straight they are, seen along an axis, and how flat in space.
 *
 * Words in capitals are those of the document. All rows are made with the object and used again,
 * so that no call makes anything.
 */
public final class ZoneJudge {
    public static final int BAD = -1, NOT = -2, FULL = -3, NONE = -4, NULL = -11, CAST = -12, INDEX = -13, SIZE = -14;

    private static final int MOST_POINTS = 10;
    private static final int REACH = 15;
    private static final int AXES = 3;
    private static final int SLAB = 3;
    private static final int MOST_TOLERANCE = 999;
    private static final int TENTHS = 10;
    private static final int KNOWN = 6;
    private static final int MOST_TURNS = 40;
    private static final int TAPE_LETTERS = 90;
    private static final int FAULT = -20;
    private static final int NO_FAULT = -1;
    private static final int WAY_SHIFT = 2000;
    private static final int SHEETS = 4;
    private static final int LANES = 4;
    private static final int MOST_ITEMS = 24;
    private static final int NO_LANE = -1;

    private final Scene scene = new Scene();
    private final Past past = new Past();
    private final Scene keptScene = new Scene();
    private final Past keptPast = new Past();
    private boolean hasImage = false;
    private final View view = new View();
    private final Zone[] zones = new Zone[SLAB + 1];
    private final Odds odds = new Odds();
    private final Tape tape = new Tape();
    private final Rows rows = new Rows();
    private final Fraction fraction = new Fraction();

    public ZoneJudge() {
        for (int judge = 0; judge <= SLAB; judge++) {
            zones[judge] = new Zone(judge);
        }
    }

    // ---- 1 points, hulls

    public int add(int x, int y, int z) {
        if (!isCoordinate(x) || !isCoordinate(y) || !isCoordinate(z)) {
            return BAD;
        }
        if (scene.holds(x, y, z)) {
            return NOT;
        }
        if (scene.points >= MOST_POINTS) {
            return FULL;
        }
        past.keep(scene);
        scene.append(x, y, z);
        return scene.points;
    }

    public int out(int k) {
        if (!isPoint(k)) {
            return BAD;
        }
        past.keep(scene);
        scene.remove(k);
        return scene.points;
    }

    public int move(int k, int axis, int v) {
        if (!isPoint(k) || !isAxis(axis) || !isCoordinate(v)) {
            return BAD;
        }
        if (!scene.isFree(k, axis, v)) {
            return NOT;
        }
        int was = scene.coordinate(k, axis);
        past.keep(scene);
        scene.place(k, axis, v);
        return was + REACH;
    }

    public int tolerance(int t) {
        if (!isIn(t, 0, MOST_TOLERANCE)) {
            return BAD;
        }
        int was = scene.tolerance;
        if (t == was) {
            return NOT;
        }
        past.keep(scene);
        scene.tolerance = t;
        return was;
    }

    public int point(int k, int axis) {
        if (!isPoint(k) || !isAxis(axis)) {
            return BAD;
        }
        return scene.coordinate(k, axis) + REACH;
    }

    public int hull(int axis, int k) {
        if (!isAxis(axis) || k < 0) {
            return BAD;
        }
        wrapAlong(axis);
        return k < view.corners ? view.corner[k] : NONE;
    }

    public int edge(int axis, int k, int what) {
        if (!isAxis(axis) || k < 0 || !isIn(what, 0, 2)) {
            return BAD;
        }
        wrapAlong(axis);
        if (k >= view.edges()) {
            return NONE;
        }
        int from = view.corner[k];
        int to = view.corner[k + 1 < view.corners ? k + 1 : 0];
        int far = view.opposite(from, to);
        if (what == 2) {
            return far;
        }
        long turn = view.cross(from, to, far);
        fraction.become(turn * turn, view.apart(from, to));
        return (int) fraction.part(what);
    }

    public int count(int what) {
        switch (what) {
            case 0:
                return scene.points;
            case 1:
                return scene.tolerance;
            case 2:
                return past.known;
            case 3:
            case 4:
            case 5:
                return furthest(what);
            default:
                return BAD;
        }
    }

    // ---- 2 judged

    public long judge(int judge, int what) {
        if (!isJudge(judge) || !isIn(what, 0, 5)) {
            return BAD;
        }
        Zone zone = zones[judge];
        zone.survey(scene);
        switch (what) {
            case 0:
            case 1:
                return zone.width.part(what);
            case 2:
                return zone.low();
            case 3:
                return zone.high();
            case 4:
                return zone.isGood(scene.tolerance) ? 1 : 0;
            default:
                return scene.points == 0 ? NONE : zone.worst();
        }
    }

    public int way(int judge, int k) {
        if (!isJudge(judge) || !isIn(k, 0, judge == SLAB ? 2 : 1)) {
            return BAD;
        }
        Zone zone = zones[judge];
        zone.survey(scene);
        if (!zone.hasWay) {
            return NONE;
        }
        return zone.number(k) + WAY_SHIFT;
    }

    public long without(int judge, int k, int what) {
        if (!isJudge(judge) || !isPoint(k) || !isIn(what, 0, 1)) {
            return BAD;
        }
        Zone zone = zones[judge];
        zone.survey(scene);
        return zone.widthWithout[k].part(what);
    }

    public long lost(int judge, int c, int what) {
        if (!isAxis(judge) || !isIn(c, 0, TENTHS) || !isIn(what, 0, 1)) {
            return BAD;
        }
        view.look(scene, judge);
        odds.findGood(view, scene.tolerance);
        odds.weigh(fraction, view.seen, c);
        return fraction.part(what);
    }

    // ---- 3 what is done

    public int type(int letter) {
        if (!isIn(letter, ' ', '~')) {
            return BAD;
        }
        if (tape.length >= TAPE_LETTERS) {
            return FULL;
        }
        tape.append((char) letter);
        return tape.length;
    }

    public int read() {
        int fault = tape.parse();
        tape.length = 0;
        if (fault != NO_FAULT) {
            return FAULT - fault;
        }
        past.keep(scene);
        scene.clear();
        for (int k = 0; k < tape.points; k++) {
            scene.append(tape.number(k, 0), tape.number(k, 1), tape.number(k, 2));
        }
        return scene.points;
    }

    public int drift(int n) {
        if (!isIn(n, 1, MOST_TURNS)) {
            return BAD;
        }
        int went = 0;
        for (int turn = 0; turn < n; turn++) {
            past.keep(scene);
            if (scene.turn()) {
                went++;
            }
        }
        return went;
    }

    public int undo() {
        if (past.known == 0) {
            return NONE;
        }
        past.bringBack(scene);
        return past.known;
    }

    public int seed(int v) {
        if (v < 0) {
            return BAD;
        }
        int was = scene.draw;
        scene.draw = v;
        return was;
    }

    public int image() {
        keptScene.become(scene);
        keptPast.become(past);
        hasImage = true;
        return 1;
    }

    public int restore() {
        if (!hasImage) {
            return NONE;
        }
        scene.become(keptScene);
        past.become(keptPast);
        return 1;
    }

    // ---- sheets

    public int corners(int sheet, int lane, int i, int n) {
        if (!isIn(n, 1, MOST_POINTS)) {
            return BAD;
        }
        int refused = rows.refusal(sheet, lane, i, 2 * n);
        if (refused != 0) {
            return refused;
        }
        for (int m = i; m < i + 2 * n; m++) {
            long v = rows.row[sheet][m];
            if (v < -REACH || v > REACH) {
                return NOT;
            }
        }
        view.clear();
        for (int m = i; m < i + 2 * n; m += 2) {
            view.append((int) rows.row[sheet][m], (int) rows.row[sheet][m + 1]);
        }
        view.wrap();
        return view.cornerSet();
    }

    public int film(int axis, int sheet, int lane, int i) {
        if (!isAxis(axis)) {
            return BAD;
        }
        int items = 2 * scene.points;
        int refused = rows.refusal(sheet, lane, i, items);
        if (refused != 0) {
            return refused;
        }
        view.look(scene, axis);
        for (int k = 0; k < view.seen; k++) {
            rows.row[sheet][i + 2 * k] = view.u[k];
            rows.row[sheet][i + 2 * k + 1] = view.v[k];
        }
        return items;
    }

    public int sheet(int sheet, int lane, int n) {
        if (!isSheet(sheet) || !isLane(lane) || n > MOST_ITEMS) {
            return BAD;
        }
        if (n < 0) {
            return SIZE;
        }
        rows.open(sheet, lane, n);
        return n;
    }

    public int drop(int sheet) {
        if (!isSheet(sheet)) {
            return BAD;
        }
        if (rows.lane[sheet] == NO_LANE) {
            return NULL;
        }
        rows.lane[sheet] = NO_LANE;
        return rows.length[sheet];
    }

    public int item(int sheet, int lane, int i, long v) {
        int refused = rows.refusal(sheet, lane, i, 1);
        if (refused != 0) {
            return refused;
        }
        rows.row[sheet][i] = Rows.lowest(lane, v);
        return 1;
    }

    public int copy(int from, int i, int to, int j, int n) {
        if (!isSheet(from) || !isSheet(to)) {
            return BAD;
        }
        if (rows.lane[from] == NO_LANE || rows.lane[to] == NO_LANE) {
            return NULL;
        }
        if (rows.lane[from] != rows.lane[to]) {
            return CAST;
        }
        if (rows.lacks(from, i, n) || rows.lacks(to, j, n)) {
            return INDEX;
        }
        System.arraycopy(rows.row[from], i, rows.row[to], j, n);
        return n;
    }

    // ---- helpers

    private static boolean isIn(int v, int least, int most) {
        return v >= least && v <= most;
    }

    private static boolean isCoordinate(int v) {
        return isIn(v, -REACH, REACH);
    }

    private static boolean isAxis(int axis) {
        return isIn(axis, 0, AXES - 1);
    }

    private static boolean isJudge(int judge) {
        return isIn(judge, 0, SLAB);
    }

    private static boolean isSheet(int sheet) {
        return isIn(sheet, 0, SHEETS - 1);
    }

    private static boolean isLane(int lane) {
        return isIn(lane, 0, LANES - 1);
    }

    private boolean isPoint(int k) {
        return isIn(k, 0, scene.points - 1);
    }

    private void wrapAlong(int axis) {
        view.look(scene, axis);
        view.wrap();
    }

    /** Of the two POINTS furthest apart: 3 their way, squared, 4 the lesser number, 5 the other one. */
    private int furthest(int what) {
        int most = NONE;
        int first = NONE;
        int second = NONE;
        for (int k = 0; k < scene.points; k++) {
            for (int other = k + 1; other < scene.points; other++) {
                int apart = scene.apart(k, other);
                if (apart > most) {
                    most = apart;
                    first = k;
                    second = other;
                }
            }
        }
        if (what == 3) {
            return most;
        }
        return what == 4 ? first : second;
    }

    /** The axis that is SEEN as u. */
    private static int axisOfU(int axis) {
        return axis == 0 ? 1 : 0;
    }

    /** The axis that is SEEN as v. */
    private static int axisOfV(int axis) {
        return axis == 2 ? 1 : 2;
    }

    /** The greatest common divisor of two numbers that aren't below 0. */
    private static long divisor(long a, long b) {
        // 92 steps are the most that two longs can need
        for (int step = 0; step < 100 && b != 0; step++) {
            long rest = a % b;
            a = b;
            b = rest;
        }
        return a;
    }

    /** A fraction in lowest terms, not below 0. */
    private static final class Fraction {
        long above = 0;
        long below = 1;

        void become(long newAbove, long newBelow) {
            long common = divisor(newAbove, newBelow);
            if (common > 0 && newBelow > 0) {
                above = newAbove / common;
                below = newBelow / common;
            }
        }

        /** Below 0, 0, above 0: the other one is less, like, more. */
        int compare(long otherAbove, long otherBelow) {
            return Long.compare(otherAbove * below, above * otherBelow);
        }

        void lowerTo(long otherAbove, long otherBelow) {
            if (compare(otherAbove, otherBelow) < 0) {
                become(otherAbove, otherBelow);
            }
        }

        long part(int what) {
            return what == 0 ? above : below;
        }
    }

    /** What is UNDONE as one: POINTS, TOLERANCE, THE DRAW. */
    private static final class Scene {
        final int[] at = new int[MOST_POINTS * AXES];
        int points = 0;
        int tolerance = 10;
        int draw = 1;

        void become(Scene other) {
            System.arraycopy(other.at, 0, at, 0, at.length);
            points = other.points;
            tolerance = other.tolerance;
            draw = other.draw;
        }

        int coordinate(int k, int axis) {
            return at[k * AXES + axis];
        }

        void place(int k, int axis, int v) {
            at[k * AXES + axis] = v;
        }

        void clear() {
            points = 0;
        }

        void append(int x, int y, int z) {
            if (points < MOST_POINTS) {
                place(points, 0, x);
                place(points, 1, y);
                place(points, 2, z);
                points++;
            }
        }

        void remove(int k) {
            int behind = (k + 1) * AXES;
            System.arraycopy(at, behind, at, k * AXES, points * AXES - behind);
            points--;
        }

        boolean holds(int x, int y, int z) {
            for (int k = 0; k < points; k++) {
                if (coordinate(k, 0) == x && coordinate(k, 1) == y && coordinate(k, 2) == z) {
                    return true;
                }
            }
            return false;
        }

        /** Whether no POINT, nor POINT k itself, is where k would go. */
        boolean isFree(int k, int axis, int v) {
            int x = axis == 0 ? v : coordinate(k, 0);
            int y = axis == 1 ? v : coordinate(k, 1);
            int z = axis == 2 ? v : coordinate(k, 2);
            return !holds(x, y, z);
        }

        int apart(int k, int other) {
            int sum = 0;
            for (int axis = 0; axis < AXES; axis++) {
                int way = coordinate(k, axis) - coordinate(other, axis);
                sum += way * way;
            }
            return sum;
        }

        /** One turn of a DRIFT: whether a POINT went elsewhere. */
        boolean turn() {
            draw = (int) ((draw * 1103515245L + 12345L) & 0x7fffffffL);
            if (points <= 0) {
                return false;
            }
            int v = draw / 65536;
            int k = v % points;
            int axis = v / 4 % AXES;
            int to = v / 16 % (2 * REACH + 1) - REACH;
            if (!isFree(k, axis, to)) {
                return false;
            }
            place(k, axis, to);
            return true;
        }
    }

    /** The scenes ahead of the latest changes, the oldest first. */
    private static final class Past {
        final Scene[] scenes = new Scene[KNOWN];
        int known = 0;

        Past() {
            for (int k = 0; k < KNOWN; k++) {
                scenes[k] = new Scene();
            }
        }

        void keep(Scene now) {
            if (known >= KNOWN) {
                forgetOldest();
            }
            scenes[known].become(now);
            known++;
        }

        /** The oldest scene's object goes behind the others, to be used again. */
        private void forgetOldest() {
            Scene oldest = scenes[0];
            for (int k = 1; k < KNOWN; k++) {
                scenes[k - 1] = scenes[k];
            }
            scenes[KNOWN - 1] = oldest;
            known = KNOWN - 1;
        }

        void bringBack(Scene now) {
            if (known > 0) {
                known--;
                now.become(scenes[known]);
            }
        }

        void become(Past other) {
            known = other.known;
            for (int k = 0; k < known; k++) {
                scenes[k].become(other.scenes[k]);
            }
        }
    }

    /** What is SEEN, flat, and the corners of its HULL. */
    private static final class View {
        final int[] u = new int[MOST_POINTS];
        final int[] v = new int[MOST_POINTS];
        final int[] corner = new int[MOST_POINTS];
        int seen = 0;
        int corners = 0;

        void clear() {
            seen = 0;
        }

        void append(int newU, int newV) {
            if (seen < MOST_POINTS) {
                u[seen] = newU;
                v[seen] = newV;
                seen++;
            }
        }

        void look(Scene scene, int axis) {
            clear();
            for (int k = 0; k < scene.points; k++) {
                append(scene.coordinate(k, axisOfU(axis)), scene.coordinate(k, axisOfV(axis)));
            }
        }

        /** Finds the corners, from each one the next. */
        void wrap() {
            corners = 0;
            int first = leftmost();
            int next = first;
            for (int step = 0; step < seen && next >= 0; step++) {
                corner[corners] = next;
                corners++;
                next = next(next);
                if (next == first) {
                    next = -1;
                }
            }
        }

        private int leftmost() {
            int best = -1;
            for (int k = 0; k < seen; k++) {
                if (best < 0 || u[k] < u[best] || u[k] == u[best] && v[k] < v[best]) {
                    best = k;
                }
            }
            return best;
        }

        /** The corner behind a corner, against the clock: -1, if all is in one place. */
        private int next(int from) {
            int best = -1;
            for (int k = 0; k < seen; k++) {
                if (apart(from, k) == 0) {
                    continue;
                }
                if (best < 0 || isOutside(from, best, k)) {
                    best = k;
                }
            }
            return best;
        }

        /** Whether k is to the right of the line to best, or on it and further away. */
        private boolean isOutside(int from, int best, int k) {
            int turn = cross(from, best, k);
            return turn < 0 || turn == 0 && apart(from, k) > apart(from, best);
        }

        int edges() {
            if (corners < 2) {
                return 0;
            }
            return corners == 2 ? 1 : corners;
        }

        int opposite(int from, int to) {
            int best = 0;
            for (int k = 1; k < seen; k++) {
                if (Math.abs(cross(from, to, k)) > Math.abs(cross(from, to, best))) {
                    best = k;
                }
            }
            return best;
        }

        int cornerSet() {
            int set = 0;
            for (int k = 0; k < corners; k++) {
                set |= 1 << corner[k];
            }
            return set;
        }

        /** Above 0, if k is to the left of the line from one to another. */
        int cross(int from, int to, int k) {
            return (u[to] - u[from]) * (v[k] - v[from]) - (v[to] - v[from]) * (u[k] - u[from]);
        }

        int apart(int from, int to) {
            int wayU = u[to] - u[from];
            int wayV = v[to] - v[from];
            return wayU * wayU + wayV * wayV;
        }
    }

    /**
     * THE BAND or THE SLAB of some POINTS, and how wide it were without each of them.
     *
     * Between two WAYS by which other POINTS come to touch, the WIDTH is strictly concave: so it is least
     * only by a WAY that is square to two lines through POINTS (of THE BAND: to one such line and to its
     * AXIS). These WAYS are tried, and no others. Those of fewer POINTS are among those of all.
     */
    private static final class Zone {
        /** More than any POINT can be along a WAY. */
        private static final int BEYOND = 1000000;

        final int judge;
        final int[] at = new int[MOST_POINTS * AXES];
        int points = 0;
        /** From POINT to POINT: x, y, z of each pair. */
        final int[] line = new int[MOST_POINTS * (MOST_POINTS - 1) / 2 * AXES];
        int lines = 0;
        boolean hasWay = false;
        final int[] best = new int[AXES];
        final int[] tried = new int[AXES];
        final Fraction width = new Fraction();
        final Fraction[] widthWithout = new Fraction[MOST_POINTS];
        /** How far each POINT is along the WAY that was measured last. */
        final int[] along = new int[MOST_POINTS];
        int least, nextLeast, leastAt;
        int greatest, nextGreatest, greatestAt;

        Zone(int judge) {
            this.judge = judge;
            for (int k = 0; k < MOST_POINTS; k++) {
                widthWithout[k] = new Fraction();
            }
        }

        /** Makes all answers fit these POINTS; they stay while the POINTS do. */
        void survey(Scene scene) {
            if (isOf(scene)) {
                return;
            }
            begin(scene);
            for (int k = 0; k < lines; k++) {
                if (judge != SLAB) {
                    trySquareTo(k, judge == 0 ? 1 : 0, judge == 1 ? 1 : 0, judge == 2 ? 1 : 0);
                    continue;
                }
                for (int other = k + 1; other < lines; other++) {
                    int m = other * AXES;
                    trySquareTo(k, line[m], line[m + 1], line[m + 2]);
                }
            }
            for (int k = 0; k < points; k++) {
                widthWithout[k].lowerTo(width.above, width.below);
            }
        }

        private void begin(Scene scene) {
            System.arraycopy(scene.at, 0, at, 0, at.length);
            points = scene.points;
            hasWay = false;
            setAllWidths(0, 1);
            drawLines();
        }

        private boolean isOf(Scene scene) {
            if (points != scene.points) {
                return false;
            }
            for (int m = 0; m < points * AXES; m++) {
                if (at[m] != scene.at[m]) {
                    return false;
                }
            }
            return true;
        }

        private void setAllWidths(long above, long below) {
            width.become(above, below);
            for (int k = 0; k < MOST_POINTS; k++) {
                widthWithout[k].become(above, below);
            }
        }

        private void drawLines() {
            lines = 0;
            for (int k = 0; k < points; k++) {
                for (int other = k + 1; other < points; other++) {
                    for (int axis = 0; axis < AXES; axis++) {
                        line[lines * AXES + axis] = at[other * AXES + axis] - at[k * AXES + axis];
                    }
                    lines++;
                }
            }
        }

        /** Tries the WAY that is square to a line and to x, y, z. */
        private void trySquareTo(int k, int x, int y, int z) {
            int lineX = line[k * AXES];
            int lineY = line[k * AXES + 1];
            int lineZ = line[k * AXES + 2];
            tried[0] = lineY * z - lineZ * y;
            tried[1] = lineZ * x - lineX * z;
            tried[2] = lineX * y - lineY * x;
            long below = (long) tried[0] * tried[0] + (long) tried[1] * tried[1] + (long) tried[2] * tried[2];
            if (below > 0) {
                measure(tried);
                compare(below);
            }
        }

        /** Finds the two least and the two greatest along a WAY: the second ones hold without the first. */
        private void measure(int[] way) {
            int a = way[0];
            int b = way[1];
            int c = way[2];
            least = BEYOND;
            nextLeast = BEYOND;
            greatest = -BEYOND;
            nextGreatest = -BEYOND;
            for (int k = 0; k < points; k++) {
                int m = k * AXES;
                int far = a * at[m] + b * at[m + 1] + c * at[m + 2];
                along[k] = far;
                if (far < least) {
                    nextLeast = least;
                    least = far;
                    leastAt = k;
                } else if (far < nextLeast) {
                    nextLeast = far;
                }
                if (far > greatest) {
                    nextGreatest = greatest;
                    greatest = far;
                    greatestAt = k;
                } else if (far > nextGreatest) {
                    nextGreatest = far;
                }
            }
        }

        /** Takes the tried WAY, where it is better than what was best. */
        private void compare(long below) {
            long whole = square(greatest - least);
            if (!hasWay) {
                setAllWidths(whole, below);
                takeWay();
            } else if (width.compare(whole, below) < 0) {
                width.become(whole, below);
                takeWay();
            } else if (width.compare(whole, below) == 0) {
                takeWayIfFirst();
            }
            widthWithout[leastAt].lowerTo(square(greatest - nextLeast), below);
            widthWithout[greatestAt].lowerTo(square(nextGreatest - least), below);
        }

        private static long square(int v) {
            return (long) v * v;
        }

        private void takeWay() {
            lowerTried();
            System.arraycopy(tried, 0, best, 0, AXES);
            hasWay = true;
        }

        private void takeWayIfFirst() {
            lowerTried();
            for (int m = 0; m < AXES; m++) {
                if (tried[m] > best[m]) {
                    return;
                }
                if (tried[m] < best[m]) {
                    System.arraycopy(tried, 0, best, 0, AXES);
                    return;
                }
            }
        }

        /** Leaves the tried WAY no common divisor, and its first number that isn't 0 above 0. */
        private void lowerTried() {
            long common = divisor(Math.abs(tried[0]), divisor(Math.abs(tried[1]), Math.abs(tried[2])));
            if (common <= 0) {
                return;
            }
            int by = (int) common;
            int first = tried[0] != 0 ? tried[0] : tried[1] != 0 ? tried[1] : tried[2];
            if (first < 0) {
                by = -by;
            }
            for (int m = 0; m < AXES; m++) {
                tried[m] = tried[m] / by;
            }
        }

        int number(int k) {
            if (judge == SLAB) {
                return best[k];
            }
            return best[k == 0 ? axisOfU(judge) : axisOfV(judge)];
        }

        int low() {
            if (!hasWay) {
                return 0;
            }
            measure(best);
            return setAt(least);
        }

        int high() {
            if (!hasWay) {
                return 0;
            }
            measure(best);
            return setAt(greatest);
        }

        private int setAt(int far) {
            int set = 0;
            for (int k = 0; k < points; k++) {
                if (along[k] == far) {
                    set |= 1 << k;
                }
            }
            return set;
        }

        boolean isGood(int tolerance) {
            return 100 * width.above <= square(tolerance) * width.below;
        }

        int worst() {
            int worst = 0;
            for (int k = 1; k < points; k++) {
                if (widthWithout[worst].compare(widthWithout[k].above, widthWithout[k].below) < 0) {
                    worst = k;
                }
            }
            return worst;
        }
    }

    /** Which sets of what is SEEN are GOOD, and how likely one of these is left. */
    private static final class Odds {
        final boolean[] good = new boolean[1 << MOST_POINTS];
        final long[] howMany = new long[MOST_POINTS + 1];

        /** A set is GOOD, if it fits within the TOLERANCE square to any line through two: so are its parts. */
        void findGood(View view, int tolerance) {
            int all = (1 << view.seen) - 1;
            for (int set = 0; set <= all; set++) {
                good[set] = false;
            }
            boolean hasLine = false;
            for (int k = 0; k < view.seen; k++) {
                for (int other = k + 1; other < view.seen; other++) {
                    if (view.apart(k, other) > 0) {
                        hasLine = true;
                        markAlong(view, k, other, tolerance);
                    }
                }
            }
            if (!hasLine) {
                good[all] = true;
            }
            markParts(view.seen);
            countBySize(all);
        }

        /** Marks for each point the set of all that fit beside it and to the left of it. */
        private void markAlong(View view, int from, int to, int tolerance) {
            long room = (long) tolerance * tolerance * view.apart(from, to);
            for (int k = 0; k < view.seen; k++) {
                int start = view.cross(from, to, k);
                int set = 0;
                for (int other = 0; other < view.seen; other++) {
                    long far = view.cross(from, to, other) - start;
                    if (far >= 0 && 100 * far * far <= room) {
                        set |= 1 << other;
                    }
                }
                good[set] = true;
            }
        }

        private void markParts(int seen) {
            for (int set = (1 << seen) - 1; set > 0; set--) {
                for (int k = 0; k < seen; k++) {
                    if (good[set]) {
                        good[set & ~(1 << k)] = true;
                    }
                }
            }
        }

        private void countBySize(int all) {
            for (int kept = 0; kept <= MOST_POINTS; kept++) {
                howMany[kept] = 0;
            }
            for (int set = 0; set <= all; set++) {
                if (good[set]) {
                    howMany[Integer.bitCount(set)]++;
                }
            }
        }

        void weigh(Fraction fraction, int seen, int c) {
            long above = 0;
            for (int kept = 0; kept <= seen; kept++) {
                above += howMany[kept] * power(TENTHS - c, kept) * power(c, seen - kept);
            }
            fraction.become(above, power(TENTHS, seen));
        }

        private static long power(int v, int times) {
            long product = 1;
            for (int k = 0; k < times; k++) {
                product *= v;
            }
            return product;
        }
    }

    /** THE TAPE, and the POINTS that it tells. */
    private static final class Tape {
        final char[] letters = new char[TAPE_LETTERS];
        int length = 0;
        final int[] told = new int[MOST_POINTS * AXES];
        int points = 0;
        int place = 0;

        void append(char letter) {
            if (length < TAPE_LETTERS) {
                letters[length] = letter;
                length++;
            }
        }

        int number(int k, int axis) {
            return told[k * AXES + axis];
        }

        /** Reads a TEXT: NO_FAULT, or the place of the FAULT. */
        int parse() {
            place = 0;
            points = 0;
            for (int k = 0; k < MOST_POINTS; k++) {
                if (k > 0) {
                    place++;
                }
                int fault = parsePoint(k);
                if (fault != NO_FAULT) {
                    return fault;
                }
                points = k + 1;
                skipBlanks();
                if (place >= length) {
                    return NO_FAULT;
                }
                if (letters[place] != ';') {
                    return place;
                }
            }
            return place;
        }

        private int parsePoint(int k) {
            for (int axis = 0; axis < AXES; axis++) {
                if (axis > 0) {
                    skipBlanks();
                    if (letter() != ',') {
                        return place;
                    }
                    place++;
                }
                int fault = parseNumber(k, axis);
                if (fault != NO_FAULT) {
                    return fault;
                }
            }
            return NO_FAULT;
        }

        private int parseNumber(int k, int axis) {
            skipBlanks();
            int start = place;
            boolean isMinus = letter() == '-';
            if (isMinus) {
                place++;
                skipBlanks();
            }
            if (!isFigure()) {
                return place;
            }
            int value = takeFigure();
            if (isFigure()) {
                value = 10 * value + takeFigure();
            }
            if (value > REACH) {
                return start;
            }
            if (isFigure()) {
                return place;
            }
            told[k * AXES + axis] = isMinus ? -value : value;
            return axis == AXES - 1 && isToldAhead(k) ? start : NO_FAULT;
        }

        private boolean isToldAhead(int k) {
            for (int other = 0; other < k; other++) {
                if (number(other, 0) == number(k, 0) && number(other, 1) == number(k, 1)
                        && number(other, 2) == number(k, 2)) {
                    return true;
                }
            }
            return false;
        }

        private void skipBlanks() {
            while (place < length && letters[place] == ' ') {
                place++;
            }
        }

        /** The letter at the place; a sign that no TEXT has, at the end. */
        private char letter() {
            return place < length ? letters[place] : 0;
        }

        private boolean isFigure() {
            return letter() >= '0' && letter() <= '9';
        }

        private int takeFigure() {
            int figure = letter() - '0';
            place++;
            return figure;
        }
    }

    /** SHEETS: every LANE is held in longs, which have room for each item as it is. */
    private static final class Rows {
        final long[][] row = new long[SHEETS][MOST_ITEMS];
        final int[] lane = new int[SHEETS];
        final int[] length = new int[SHEETS];

        Rows() {
            for (int sheet = 0; sheet < SHEETS; sheet++) {
                lane[sheet] = NO_LANE;
            }
        }

        void open(int sheet, int newLane, int n) {
            lane[sheet] = newLane;
            length[sheet] = n;
            for (int i = 0; i < MOST_ITEMS; i++) {
                row[sheet][i] = 0;
            }
        }

        /** Why n items of a SHEET can't be taken as of a LANE from i on: 0, if they can. */
        int refusal(int sheet, int wanted, int i, int n) {
            if (!isSheet(sheet) || !isLane(wanted)) {
                return BAD;
            }
            if (lane[sheet] == NO_LANE) {
                return NULL;
            }
            if (lane[sheet] != wanted) {
                return CAST;
            }
            return lacks(sheet, i, n) ? INDEX : 0;
        }

        boolean lacks(int sheet, int i, int n) {
            return n < 0 || i < 0 || i > length[sheet] - n;
        }

        /** The lowest bits of v that a LANE's item holds. */
        static long lowest(int lane, long v) {
            switch (lane) {
                case 0:
                    return (byte) v;
                case 1:
                    return (short) v;
                case 2:
                    return (int) v;
                default:
                    return v;
            }
        }
    }
}
