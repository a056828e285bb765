import java.util.Random;

/** Long runs of drawn calls: the class and the model must answer each alike. */
public final class ModelTest {
    private static final int CALLS = 512;
    private static final int NAMES = 25;
    /** How often each call comes: in the order of the document's face. */
    private static final int[] EVEN = {9, 3, 8, 4, 6, 9, 9, 8, 14, 9, 5, 1, 6, 3, 2, 7, 2, 2, 2, 6, 4, 4, 2, 8, 5};
    private static final int[] SHEETS = {4, 1, 1, 0, 0, 0, 0, 0, 0, 0, 0, 0, 0, 0, 1, 1, 0, 1, 1, 30, 12, 8, 2, 40, 20};
    private static final int[] DEEDS = {20, 12, 20, 12, 30, 2, 1, 20, 0, 0, 0, 0, 4, 2, 10, 30, 5, 4, 4, 0, 0, 0, 0, 0, 0};

    private static final int[] JUDGED = {40, 2, 20, 10, 0, 9, 20, 8, 40, 20, 30, 3, 0, 0, 4, 1, 1, 0, 0, 0, 0, 0, 0, 0, 0};

    private final Due due = new Due();
    private final Random random;
    private final ZoneJudge judge = new ZoneJudge();
    private final ZoneModel model = new ZoneModel();
    private final String run;
    private final int reach;

    private ModelTest(long seed, int reach) {
        random = new Random(seed);
        run = "run " + seed + ": ";
        this.reach = reach;
    }

    public static void main(String[] args) {
        for (int seed = 0; seed < 200; seed++) {
            new ModelTest(seed, new int[] {15, 1, 2, 4}[seed % 4]).run(EVEN);
            new ModelTest(1000 + seed, 3).run(SHEETS);
            new ModelTest(2000 + seed, seed % 2 == 0 ? 15 : 1).run(DEEDS);
            new ModelTest(3000 + seed, new int[] {15, 2, 6, 3}[seed % 4]).run(JUDGED);
        }
        System.out.println("all runs are as the model has them");
    }

    private void run(int[] weights) {
        int sum = 0;
        for (int w : weights) sum += w;
        for (int call = 0; call < CALLS; call++) {
            int left = random.nextInt(sum);
            int name = 0;
            while (left >= weights[name]) left -= weights[name++];
            call(name % NAMES);
            if (due.hasWrong()) due.end();
        }
    }

    /** A number of 0 to most - 1, now and then one beside them or far off. */
    private int draw(int most) {
        int r = random.nextInt(40);
        if (r == 0) return -1 - random.nextInt(2);
        if (r == 1) return most + random.nextInt(2);
        if (r == 2 && random.nextInt(4) == 0) return random.nextBoolean() ? Integer.MAX_VALUE : Integer.MIN_VALUE;
        return most < 1 ? 0 : random.nextInt(most);
    }

    private int coordinate() {
        if (random.nextInt(60) == 0) return random.nextBoolean() ? 16 : -16;
        return random.nextInt(2 * reach + 1) - reach;
    }

    private long value() {
        int r = random.nextInt(10);
        if (r == 0) return random.nextLong();
        if (r == 1) return new long[] {-16, 16, 128, -129, 32768, 256, 1L << 32, Long.MIN_VALUE}[random.nextInt(8)];
        return coordinate();
    }

    private void is(String call, long got, long want) {
        due.is(run + call, got, want);
    }

    private void call(int name) {
        int n = model.count(0);
        int a = draw(4), b = draw(4), c = draw(24), d = draw(24), e = draw(13);
        int k = draw(n), axis = draw(3), what = draw(3), v = coordinate(), y = coordinate(), z = coordinate();
        switch (name) {
            case 0: is("add " + v + " " + y + " " + z, judge.add(v, y, z), model.add(v, y, z)); break;
            case 1: is("out " + k, judge.out(k), model.out(k)); break;
            case 2: is("move " + k + " " + axis + " " + v, judge.move(k, axis, v), model.move(k, axis, v)); break;
            case 3: tolerance(); break;
            case 4: is("point " + k + " " + axis, judge.point(k, axis), model.point(k, axis)); break;
            case 5: is("hull " + axis + " " + k, judge.hull(axis, k), model.hull(axis, k)); break;
            case 6: is("edge " + axis + " " + k + " " + what, judge.edge(axis, k, what), model.edge(axis, k, what)); break;
            case 7: what = draw(6); is("count " + what, judge.count(what), model.count(what)); break;
            case 8: what = draw(6); is("judge " + a + " " + what, judge.judge(a, what), model.judge(a, what)); break;
            case 9: is("way " + a + " " + what, judge.way(a, what), model.way(a, what)); break;
            case 10: what = draw(2); is("without " + a + " " + k, judge.without(a, k, what), model.without(a, k, what)); break;
            case 11: lost(axis); break;
            case 12: text(); break;
            case 13: is("read", judge.read(), model.read()); break;
            case 14: k = draw(random.nextInt(4) == 0 ? 42 : 5); is("drift " + k, judge.drift(k), model.drift(k)); break;
            case 15: is("undo", judge.undo(), model.undo()); break;
            case 16: k = random.nextInt(); is("seed " + k, judge.seed(k), model.seed(k)); break;
            case 17: is("image", judge.image(), model.image()); break;
            case 18: is("restore", judge.restore(), model.restore()); break;
            case 19: k = draw(12); c = draw(6); is("corners " + a + " " + b + " " + c + " " + k, judge.corners(a, b, c, k), model.corners(a, b, c, k)); break;
            case 20: is("film " + axis + " " + a + " " + b + " " + c, judge.film(axis, a, b, c), model.film(axis, a, b, c)); break;
            case 21: k = random.nextInt(3) == 0 ? draw(26) : 24; is("sheet " + a + " " + b + " " + k, judge.sheet(a, b, k), model.sheet(a, b, k)); break;
            case 22: is("drop " + a, judge.drop(a), model.drop(a)); break;
            case 23: long w = value(); is("item " + a + " " + b + " " + c + " " + w, judge.item(a, b, c, w), model.item(a, b, c, w)); break;
            default: is("copy " + a + " " + c + " " + b + " " + d + " " + e, judge.copy(a, c, b, d, e), model.copy(a, c, b, d, e));
        }
        if (name >= 19) watchSheets();
    }

    private void tolerance() {
        int t = random.nextBoolean() ? draw(1000) : draw(30);
        is("tolerance " + t, judge.tolerance(t), model.tolerance(t));
    }

    private void lost(int axis) {
        int c = draw(11), what = draw(2);
        is("lost " + axis + " " + c + " " + what, judge.lost(axis, c, what), model.lost(axis, c, what));
    }

    /** What items hold shows only in corners: short rows tell a fault, where it comes. */
    private void watchSheets() {
        int sheet = random.nextInt(4), i = random.nextInt(23);
        for (int lane = 0; lane < 4; lane++) {
            is("corners " + sheet + " " + lane + " " + i, judge.corners(sheet, lane, i, 1), model.corners(sheet, lane, i, 1));
        }
        for (int lane = 0; lane < 4; lane++) {
            is("corners " + sheet + " " + lane, judge.corners(sheet, lane, 0, 7), model.corners(sheet, lane, 0, 7));
        }
    }

    private String number() {
        String figures = String.valueOf(random.nextInt(40) == 0 ? random.nextInt(200) : random.nextInt(reach + 1));
        if (random.nextInt(15) == 0) figures = "0" + figures;
        return (random.nextInt(3) == 0 ? "-" : "") + (random.nextInt(30) == 0 ? " " : "") + figures
            + (random.nextInt(30) == 0 ? "  " : "");
    }

    private void text() {
        StringBuilder text = new StringBuilder();
        int points = 1 + random.nextInt(random.nextInt(3) == 0 ? 11 : 5);
        for (int k = 0; k < points; k++) {
            if (k > 0) text.append(";");
            text.append(number()).append(",").append(number()).append(",").append(number());
        }
        if (random.nextInt(5) == 0) {
            text.setCharAt(random.nextInt(text.length()), (char) (31 + random.nextInt(97)));
        }
        if (random.nextInt(8) == 0) text.setLength(random.nextInt(text.length()));
        for (int k = 0; k < text.length(); k++) {
            is("type", judge.type(text.charAt(k)), model.type(text.charAt(k)));
        }
        if (random.nextInt(6) != 0) is("read <" + text + ">", judge.read(), model.read());
    }
}
