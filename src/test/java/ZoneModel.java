import java.math.BigInteger;
import java.util.ArrayDeque;
import java.util.ArrayList;
import java.util.Arrays;
import java.util.Deque;
import java.util.HashMap;
import java.util.HashSet;
import java.util.List;
import java.util.Map;
import java.util.Set;
import java.util.TreeSet;

/**
 * The document said again, by other means than the class: sets and lists of the library, corners by triangles,
 * every set of points that may be lost judged by itself, the tape by states. Slow, and used by tests alone.
 */
final class ZoneModel {
    static final int BAD = -1, NOT = -2, FULL = -3, NONE = -4, NULL = -11, CAST = -12, INDEX = -13, SIZE = -14;

    record State(List<List<Integer>> points, int tolerance, long draw) { }

    record Kept(State state, List<State> past) { }

    /** A width as a fraction, with the way, if there is one. */
    record Width(long above, long below, long[] way) { }

    private State now = new State(List.of(), 10, 1);
    private final Deque<State> past = new ArrayDeque<>();
    private Kept kept = null;
    private final StringBuilder tape = new StringBuilder();
    private final Object[] sheets = new Object[4];
    private final Map<Object, Width> known = new HashMap<>();

    // ---- points

    private void happens(State next) {
        past.addLast(now);
        if (past.size() > 6) past.removeFirst();
        now = next;
    }

    private State with(List<List<Integer>> points) {
        return new State(List.copyOf(points), now.tolerance, now.draw);
    }

    private static boolean isCoordinate(long v) {
        return -15 <= v && v <= 15;
    }

    private boolean isPoint(int k) {
        return k >= 0 && k < now.points.size();
    }

    int add(int x, int y, int z) {
        if (!isCoordinate(x) || !isCoordinate(y) || !isCoordinate(z)) return BAD;
        if (now.points.contains(List.of(x, y, z))) return NOT;
        if (now.points.size() == 10) return FULL;
        List<List<Integer>> next = new ArrayList<>(now.points);
        next.add(List.of(x, y, z));
        happens(with(next));
        return next.size();
    }

    int out(int k) {
        if (!isPoint(k)) return BAD;
        List<List<Integer>> next = new ArrayList<>(now.points);
        next.remove(k);
        happens(with(next));
        return next.size();
    }

    private List<List<Integer>> moved(int k, int axis, int v) {
        List<Integer> to = new ArrayList<>(now.points.get(k));
        to.set(axis, v);
        if (now.points.contains(to)) return null;
        List<List<Integer>> next = new ArrayList<>(now.points);
        next.set(k, List.copyOf(to));
        return next;
    }

    int move(int k, int axis, int v) {
        if (!isPoint(k) || axis < 0 || axis > 2 || !isCoordinate(v)) return BAD;
        int was = now.points.get(k).get(axis);
        List<List<Integer>> next = moved(k, axis, v);
        if (next == null) return NOT;
        happens(with(next));
        return was + 15;
    }

    int tolerance(int t) {
        if (t < 0 || t > 999) return BAD;
        if (t == now.tolerance) return NOT;
        int was = now.tolerance;
        happens(new State(now.points, t, now.draw));
        return was;
    }

    int point(int k, int axis) {
        return !isPoint(k) || axis < 0 || axis > 2 ? BAD : now.points.get(k).get(axis) + 15;
    }

    int count(int what) {
        if (what == 0) return now.points.size();
        if (what == 1) return now.tolerance;
        if (what == 2) return past.size();
        if (what < 0 || what > 5) return BAD;
        if (now.points.size() < 2) return NONE;
        int[] best = null;
        for (int i = 0; i < now.points.size(); i++) {
            for (int j = i + 1; j < now.points.size(); j++) {
                int sum = 0;
                for (int a = 0; a < 3; a++) {
                    int d = now.points.get(i).get(a) - now.points.get(j).get(a);
                    sum += d * d;
                }
                if (best == null || sum > best[0]) best = new int[] {sum, i, j};
            }
        }
        return best[what - 3];
    }

    // ---- hulls

    private static List<long[]> seen(List<List<Integer>> points, int axis) {
        List<long[]> seen = new ArrayList<>();
        for (List<Integer> p : points) {
            List<Integer> rest = new ArrayList<>(p);
            rest.remove(axis);
            seen.add(new long[] {rest.get(0), rest.get(1)});
        }
        return seen;
    }

    private static long cross(long[] a, long[] b, long[] c) {
        return (b[0] - a[0]) * (c[1] - a[1]) - (b[1] - a[1]) * (c[0] - a[0]);
    }

    private static boolean isBetween(long[] p, long[] a, long[] b) {
        return cross(a, b, p) == 0
            && (p[0] - a[0]) * (p[0] - b[0]) + (p[1] - a[1]) * (p[1] - b[1]) <= 0;
    }

    private static boolean isInside(long[] p, long[] a, long[] b, long[] c) {
        long turn = Long.signum(cross(a, b, c));
        return turn != 0 && turn * cross(a, b, p) >= 0 && turn * cross(b, c, p) >= 0 && turn * cross(c, a, p) >= 0;
    }

    /** The corners, by the first that has each place, against the clock from the left. */
    static List<Integer> cornersOf(List<long[]> seen) {
        List<Integer> places = new ArrayList<>();
        Set<List<Long>> known = new HashSet<>();
        for (int k = 0; k < seen.size(); k++) {
            if (known.add(List.of(seen.get(k)[0], seen.get(k)[1]))) places.add(k);
        }
        List<Integer> corners = new ArrayList<>();
        for (int k : places) {
            if (!isCovered(seen, places, k)) corners.add(k);
        }
        corners.sort((a, b) -> Arrays.compare(seen.get(a), seen.get(b)));
        if (corners.size() > 2) {
            long[] first = seen.get(corners.get(0));
            corners.subList(1, corners.size())
                .sort((a, b) -> Long.signum(cross(first, seen.get(b), seen.get(a))));
        }
        return corners;
    }

    private static boolean isCovered(List<long[]> seen, List<Integer> places, int k) {
        long[] p = seen.get(k);
        for (int a : places) {
            for (int b : places) {
                if (a == k || b == k || a == b) continue;
                if (isBetween(p, seen.get(a), seen.get(b))) return true;
                for (int c : places) {
                    if (c != k && isInside(p, seen.get(a), seen.get(b), seen.get(c))) return true;
                }
            }
        }
        return false;
    }

    int hull(int axis, int k) {
        if (axis < 0 || axis > 2 || k < 0) return BAD;
        List<Integer> corners = cornersOf(seen(now.points, axis));
        return k < corners.size() ? corners.get(k) : NONE;
    }

    int edge(int axis, int k, int what) {
        if (axis < 0 || axis > 2 || k < 0 || what < 0 || what > 2) return BAD;
        List<long[]> seen = seen(now.points, axis);
        List<Integer> corners = cornersOf(seen);
        int edges = corners.size() == 1 ? 0 : corners.size() == 2 ? 1 : corners.size();
        if (k >= edges) return NONE;
        long[] from = seen.get(corners.get(k));
        long[] to = seen.get(corners.get((k + 1) % corners.size()));
        long most = -1;
        int far = -1;
        for (int m = 0; m < seen.size(); m++) {
            long c = cross(from, to, seen.get(m));
            if (c * c > most) {
                most = c * c;
                far = m;
            }
        }
        long square = (to[0] - from[0]) * (to[0] - from[0]) + (to[1] - from[1]) * (to[1] - from[1]);
        long[] lowest = lowest(most, square);
        return what == 2 ? far : (int) lowest[what];
    }

    private static long[] lowest(long above, long below) {
        long common = BigInteger.valueOf(above).gcd(BigInteger.valueOf(below)).longValueExact();
        return new long[] {above / common, below / common};
    }

    // ---- judged

    /** The width by a way of the points (each of as many numbers as the way). */
    static long[] widthBy(List<long[]> points, long[] way) {
        TreeSet<Long> sums = new TreeSet<>();
        for (long[] p : points) {
            long sum = 0;
            for (int m = 0; m < way.length; m++) sum += way[m] * p[m];
            sums.add(sum);
        }
        long extent = sums.last() - sums.first();
        long square = 0;
        for (long w : way) square += w * w;
        return new long[] {extent * extent, square};
    }

    private static long[] asWay(long... way) {
        BigInteger common = BigInteger.ZERO;
        for (long w : way) common = common.gcd(BigInteger.valueOf(w));
        if (common.signum() == 0) return null;
        long by = common.longValueExact();
        for (long w : way) {
            if (w != 0) {
                if (w < 0) by = -by;
                break;
            }
        }
        long[] lowest = new long[way.length];
        for (int m = 0; m < way.length; m++) lowest[m] = way[m] / by;
        return lowest;
    }

    /** The least width by any of these ways, of like ones the first in their order. */
    static Width least(List<long[]> points, Iterable<long[]> ways) {
        Width best = null;
        for (long[] way : ways) {
            long[] width = widthBy(points, way);
            int order = best == null ? -1
                : BigInteger.valueOf(width[0]).multiply(BigInteger.valueOf(best.below))
                    .compareTo(BigInteger.valueOf(width[1]).multiply(BigInteger.valueOf(best.above)));
            if (order < 0 || order == 0 && Arrays.compare(way, best.way) < 0) {
                long[] lowest = lowest(width[0], width[1]);
                best = new Width(lowest[0], lowest[1], way);
            }
        }
        return best == null ? new Width(0, 1, null) : best;
    }

    static Width band(List<long[]> seen) {
        TreeSet<long[]> ways = new TreeSet<>(Arrays::compare);
        for (long[] a : seen) {
            for (long[] b : seen) {
                long[] way = asWay(b[1] - a[1], a[0] - b[0]);
                if (way != null) ways.add(way);
            }
        }
        return least(seen, ways);
    }

    static Width slab(List<long[]> points) {
        List<long[]> lines = new ArrayList<>();
        for (int i = 0; i < points.size(); i++) {
            for (int j = 0; j < i; j++) {
                long[] a = points.get(i), b = points.get(j);
                lines.add(new long[] {a[0] - b[0], a[1] - b[1], a[2] - b[2]});
            }
        }
        TreeSet<long[]> ways = new TreeSet<>(Arrays::compare);
        for (long[] p : lines) {
            for (long[] q : lines) {
                long[] way = asWay(p[1] * q[2] - p[2] * q[1], p[2] * q[0] - p[0] * q[2], p[0] * q[1] - p[1] * q[0]);
                if (way != null) ways.add(way);
            }
        }
        return least(points, ways);
    }

    static List<long[]> inSpace(List<List<Integer>> points) {
        List<long[]> all = new ArrayList<>();
        for (List<Integer> p : points) all.add(new long[] {p.get(0), p.get(1), p.get(2)});
        return all;
    }

    private Width width(List<List<Integer>> points, int judge) {
        if (known.size() > 20000) known.clear();
        return known.computeIfAbsent(List.of(points, judge),
            key -> judge == 3 ? slab(inSpace(points)) : band(seen(points, judge)));
    }

    private boolean isGood(Width width) {
        return 100 * width.above <= (long) now.tolerance * now.tolerance * width.below;
    }

    private List<List<Integer>> allBut(int k) {
        List<List<Integer>> rest = new ArrayList<>(now.points);
        rest.remove(k);
        return rest;
    }

    long judge(int judge, int what) {
        if (judge < 0 || judge > 3 || what < 0 || what > 5) return BAD;
        if (what == 5) return worst(judge);
        Width width = width(now.points, judge);
        if (what == 0) return width.above;
        if (what == 1) return width.below;
        if (what == 4) return isGood(width) ? 1 : 0;
        if (width.way == null) return 0;
        List<long[]> points = judge == 3 ? inSpace(now.points) : seen(now.points, judge);
        long[] sums = new long[points.size()];
        for (int k = 0; k < sums.length; k++) {
            for (int m = 0; m < width.way.length; m++) sums[k] += width.way[m] * points.get(k)[m];
        }
        long at = what == 2 ? Arrays.stream(sums).min().getAsLong() : Arrays.stream(sums).max().getAsLong();
        long set = 0;
        for (int k = 0; k < sums.length; k++) if (sums[k] == at) set += 1L << k;
        return set;
    }

    private long worst(int judge) {
        Width best = null;
        int at = NONE;
        for (int k = 0; k < now.points.size(); k++) {
            Width width = width(allBut(k), judge);
            if (best == null || width.above * best.below < best.above * width.below) {
                best = width;
                at = k;
            }
        }
        return at;
    }

    int way(int judge, int k) {
        if (judge < 0 || judge > 3 || k < 0 || k > (judge == 3 ? 2 : 1)) return BAD;
        Width width = width(now.points, judge);
        return width.way == null ? NONE : (int) width.way[k] + 2000;
    }

    long without(int judge, int k, int what) {
        if (judge < 0 || judge > 3 || !isPoint(k) || what < 0 || what > 1) return BAD;
        Width width = width(allBut(k), judge);
        return what == 0 ? width.above : width.below;
    }

    long lost(int judge, int c, int what) {
        if (judge < 0 || judge > 2 || c < 0 || c > 10 || what < 0 || what > 1) return BAD;
        int n = now.points.size();
        BigInteger above = BigInteger.ZERO;
        for (int set = 0; set < 1 << n; set++) {
            List<List<Integer>> left = new ArrayList<>();
            BigInteger chance = BigInteger.ONE;
            for (int k = 0; k < n; k++) {
                boolean stays = (set >> k & 1) == 1;
                if (stays) left.add(now.points.get(k));
                chance = chance.multiply(BigInteger.valueOf(stays ? 10 - c : c));
            }
            if (chance.signum() != 0 && isGood(width(left, judge))) above = above.add(chance);
        }
        BigInteger below = BigInteger.TEN.pow(n);
        BigInteger common = above.gcd(below);
        return (what == 0 ? above : below).divide(common).longValueExact();
    }

    // ---- what is done

    int type(int letter) {
        if (letter < 32 || letter > 126) return BAD;
        if (tape.length() == 90) return FULL;
        tape.append((char) letter);
        return tape.length();
    }

    int read() {
        String text = tape.toString();
        tape.setLength(0);
        List<List<Integer>> points = new ArrayList<>();
        int fault = fault(text, points);
        if (fault >= 0) return -20 - fault;
        happens(with(points));
        return points.size();
    }

    /** The first fault of a text, letter by letter; -1, if there is none. */
    static int fault(String text, List<List<Integer>> points) {
        final int start = 0, minus = 1, one = 2, two = 3, behind = 4;
        int state = start, first = -1, value = 0, sign = 1;
        List<Integer> numbers = new ArrayList<>();
        for (int at = 0; at <= text.length(); at++) {
            char letter = at < text.length() ? text.charAt(at) : '$';
            boolean isFigure = letter >= '0' && letter <= '9';
            if (state == start || state == minus) {
                if (letter == ' ') continue;
                if (state == start) {
                    first = at;
                    sign = 1;
                }
                if (letter == '-' && state == start) {
                    sign = -1;
                    state = minus;
                } else if (isFigure) {
                    value = letter - '0';
                    state = one;
                } else {
                    return at;
                }
                continue;
            }
            if (isFigure) {
                if (state != one) return at;
                value = value * 10 + letter - '0';
                state = two;
                if (value > 15) return first;
                continue;
            }
            if (state != behind) {
                numbers.add(sign * value);
                if (isAgain(points, numbers)) return first;
                state = behind;
            }
            if (letter == ' ') continue;
            if (numbers.size() < 3) {
                if (letter != ',') return at;
            } else {
                points.add(List.copyOf(numbers));
                numbers.clear();
                if (at == text.length()) return -1;
                if (letter != ';' || points.size() == 10) return at;
            }
            state = start;
        }
        return text.length();
    }

    private static boolean isAgain(List<List<Integer>> points, List<Integer> numbers) {
        return numbers.size() == 3 && points.contains(numbers);
    }

    int drift(int n) {
        if (n < 1 || n > 40) return BAD;
        int went = 0;
        for (int turn = 0; turn < n; turn++) {
            long draw = (now.draw * 1103515245L + 12345L) % (1L << 31);
            long v = draw / 65536;
            List<List<Integer>> next = now.points.isEmpty() ? null
                : moved((int) (v % now.points.size()), (int) (v / 4 % 3), (int) (v / 16 % 31 - 15));
            if (next != null) went++;
            happens(new State(next == null ? now.points : List.copyOf(next), now.tolerance, draw));
        }
        return went;
    }

    int undo() {
        if (past.isEmpty()) return NONE;
        now = past.removeLast();
        return past.size();
    }

    int seed(int v) {
        if (v < 0) return BAD;
        int was = (int) now.draw;
        now = new State(now.points, now.tolerance, v);
        return was;
    }

    int image() {
        kept = new Kept(now, List.copyOf(past));
        return 1;
    }

    int restore() {
        if (kept == null) return NONE;
        now = kept.state;
        past.clear();
        past.addAll(kept.past);
        return 1;
    }

    // ---- sheets: real arrays of the machine, which finds what is wrong

    private static int laneOf(Object row) {
        return row instanceof byte[] ? 0 : row instanceof short[] ? 1 : row instanceof int[] ? 2 : 3;
    }

    private int refusal(int sheet, int lane, int i, int n) {
        if (sheet < 0 || sheet > 3 || lane < 0 || lane > 3) return BAD;
        if (sheets[sheet] == null) return NULL;
        if (laneOf(sheets[sheet]) != lane) return CAST;
        long length = java.lang.reflect.Array.getLength(sheets[sheet]);
        return i < 0 || n < 0 || (long) i + n > length ? INDEX : 0;
    }

    private long itemAt(int sheet, int i) {
        return java.lang.reflect.Array.getLong(sheets[sheet], i);
    }

    private void put(int sheet, int i, long v) {
        Object row = sheets[sheet];
        if (row instanceof byte[] bytes) bytes[i] = (byte) v;
        else if (row instanceof short[] shorts) shorts[i] = (short) v;
        else if (row instanceof int[] ints) ints[i] = (int) v;
        else ((long[]) row)[i] = v;
    }

    int corners(int sheet, int lane, int i, int n) {
        if (n < 1 || n > 10) return BAD;
        int refused = refusal(sheet, lane, i, 2 * n);
        if (refused != 0) return refused;
        List<long[]> seen = new ArrayList<>();
        for (int k = 0; k < n; k++) {
            long u = itemAt(sheet, i + 2 * k), v = itemAt(sheet, i + 2 * k + 1);
            if (!isCoordinate(u) || !isCoordinate(v)) return NOT;
            seen.add(new long[] {u, v});
        }
        int set = 0;
        for (int k : cornersOf(seen)) set += 1 << k;
        return set;
    }

    int film(int axis, int sheet, int lane, int i) {
        if (axis < 0 || axis > 2) return BAD;
        List<long[]> seen = seen(now.points, axis);
        int refused = refusal(sheet, lane, i, 2 * seen.size());
        if (refused != 0) return refused;
        for (int k = 0; k < 2 * seen.size(); k++) put(sheet, i + k, seen.get(k / 2)[k % 2]);
        return 2 * seen.size();
    }

    int sheet(int sheet, int lane, int n) {
        if (sheet < 0 || sheet > 3 || lane < 0 || lane > 3 || n > 24) return BAD;
        if (n < 0) return SIZE;
        sheets[sheet] = lane == 0 ? new byte[n] : lane == 1 ? new short[n] : lane == 2 ? new int[n] : new long[n];
        return n;
    }

    int drop(int sheet) {
        if (sheet < 0 || sheet > 3) return BAD;
        if (sheets[sheet] == null) return NULL;
        int had = java.lang.reflect.Array.getLength(sheets[sheet]);
        sheets[sheet] = null;
        return had;
    }

    int item(int sheet, int lane, int i, long v) {
        int refused = refusal(sheet, lane, i, 1);
        if (refused != 0) return refused;
        put(sheet, i, v);
        return 1;
    }

    int copy(int from, int i, int to, int j, int n) {
        if (from < 0 || from > 3 || to < 0 || to > 3) return BAD;
        try {
            System.arraycopy(sheets[from], i, sheets[to], j, n);
            return n;
        } catch (NullPointerException e) {
            return NULL;
        } catch (ArrayStoreException e) {
            return CAST;
        } catch (IndexOutOfBoundsException e) {
            return INDEX;
        }
    }
}
