import java.util.ArrayList;
import java.util.List;
import java.util.Random;
import java.util.TreeSet;
import java.util.Arrays;

/**
 * The class tries only some WAYS: here every WAY is tried that could be least (no number of one that is can be
 * greater than what lines between the points' places allow), and of like ones the first must be the answer.
 */
public final class BruteTest {
    private static final Due due = new Due();

    public static void main(String[] args) {
        Random random = new Random(7);
        List<long[]> flat = waysFlat(30);
        for (int run = 0; run < 400; run++) {
            List<int[]> points = draw(random, 2 + random.nextInt(9), new int[] {15, 2, 4, 7}[run % 4]);
            ZoneJudge judge = told(points);
            for (int axis = 0; axis < 3; axis++) band(judge, points, axis, flat);
        }
        List<long[]> close = waysInSpace(8);
        for (int run = 0; run < 300; run++) slab(draw(random, 3 + random.nextInt(8), 1), close);
        List<long[]> wide = waysInSpace(32);
        for (int run = 0; run < 60; run++) slab(draw(random, 3 + random.nextInt(8), 2), wide);
        due.end();
    }

    private static long divisor(long a, long b) {
        return b == 0 ? Math.abs(a) : divisor(b, a % b);
    }

    private static List<long[]> waysFlat(int most) {
        List<long[]> ways = new ArrayList<>();
        for (long a = 0; a <= most; a++) {
            for (long b = a == 0 ? 1 : -most; b <= (a == 0 ? 1 : most); b++) {
                if (divisor(a, b) == 1) ways.add(new long[] {a, b});
            }
        }
        return ways;
    }

    private static List<long[]> waysInSpace(int most) {
        List<long[]> ways = new ArrayList<>();
        for (long a = 0; a <= most; a++) {
            for (long b = -most; b <= most; b++) {
                for (long c = -most; c <= most; c++) {
                    boolean isWay = a > 0 || b > 0 || b == 0 && c > 0;
                    if (isWay && divisor(a, divisor(b, c)) == 1) ways.add(new long[] {a, b, c});
                }
            }
        }
        return ways;
    }

    private static List<int[]> draw(Random random, int n, int reach) {
        TreeSet<int[]> known = new TreeSet<>(Arrays::compare);
        List<int[]> points = new ArrayList<>();
        while (points.size() < n) {
            int[] p = new int[3];
            for (int m = 0; m < 3; m++) p[m] = random.nextInt(2 * reach + 1) - reach;
            if (known.add(p)) points.add(p);
        }
        return points;
    }

    private static ZoneJudge told(List<int[]> points) {
        ZoneJudge judge = new ZoneJudge();
        for (int[] p : points) judge.add(p[0], p[1], p[2]);
        return judge;
    }

    private static List<long[]> longs(List<int[]> points, int... axes) {
        List<long[]> all = new ArrayList<>();
        for (int[] p : points) {
            long[] q = new long[axes.length];
            for (int m = 0; m < axes.length; m++) q[m] = p[axes[m]];
            all.add(q);
        }
        return all;
    }

    private static String tell(List<int[]> points) {
        StringBuilder text = new StringBuilder();
        for (int[] p : points) text.append(Arrays.toString(p));
        return text.toString();
    }

    private static void band(ZoneJudge judge, List<int[]> points, int axis, List<long[]> ways) {
        int[][] seenBy = {{1, 2}, {0, 2}, {0, 1}};
        List<long[]> seen = longs(points, seenBy[axis]);
        boolean isOnePlace = seen.stream().allMatch(p -> Arrays.equals(p, seen.get(0)));
        compare(judge, axis, ZoneModel.least(seen, isOnePlace ? List.of() : ways), tell(points));
    }

    private static void slab(List<int[]> points, List<long[]> ways) {
        List<long[]> all = longs(points, 0, 1, 2);
        compare(told(points), 3, ZoneModel.least(all, isInLine(all) ? List.of() : ways), tell(points));
    }

    private static boolean isInLine(List<long[]> all) {
        long[] o = all.get(0), a = all.get(1);
        for (long[] p : all) {
            long x = a[0] - o[0], y = a[1] - o[1], z = a[2] - o[2];
            long u = p[0] - o[0], v = p[1] - o[1], w = p[2] - o[2];
            if (y * w != z * v || z * u != x * w || x * v != y * u) return false;
        }
        return true;
    }

    private static void compare(ZoneJudge judge, int by, ZoneModel.Width want, String points) {
        due.is("above by " + by + " of " + points, judge.judge(by, 0), want.above());
        due.is("below by " + by + " of " + points, judge.judge(by, 1), want.below());
        for (int k = 0; k < (by == 3 ? 3 : 2); k++) {
            due.is("way " + k + " by " + by + " of " + points, judge.way(by, k),
                want.way() == null ? ZoneJudge.NONE : want.way()[k] + 2000);
        }
    }
}
