/** One method a promise: ordinary inputs, the edges that the document names, wrong inputs. Answers by hand. */
public final class PromisesTest extends Setup {
    public static void main(String[] args) {
        newObject();
        add();
        out();
        move();
        tolerance();
        point();
        hull();
        edge();
        count();
        judgeBand();
        judgeSlab();
        way();
        without();
        lost();
        type();
        read();
        readFaults();
        drift();
        undo();
        seed();
        image();
        corners();
        film();
        sheet();
        drop();
        item();
        copy();
        due.end();
    }

    private static void newObject() {
        ZoneJudge j = new ZoneJudge();
        due.is("1 points", j.count(0), 0);
        due.is("1 tolerance", j.count(1), 10);
        due.is("1 undone", j.count(2), 0);
        due.is("1 draw", j.seed(5), 1);
        due.is("1 image", j.restore(), NONE);
        due.is("1 tape", j.type(' '), 1);
        for (int s = 0; s < 4; s++) due.is("1 sheet " + s, j.drop(s), NULL);
    }

    private static void add() {
        ZoneJudge j = new ZoneJudge();
        due.is("2 add", j.add(-15, 15, 0), 1);
        due.is("2 same", j.add(-15, 15, 0), NOT);
        due.is("2 x", j.add(16, 0, 0), BAD);
        due.is("2 y", j.add(0, -16, 0), BAD);
        due.is("2 z", j.add(0, 0, 16), BAD);
        due.is("2 far", j.add(MIN, MAX, 0), BAD);
        due.is("2 refused", j.count(0), 1);
        for (int k = 2; k <= 10; k++) due.is("2 more", j.add(k, 0, 0), k);
        due.is("2 same ahead of full", j.add(10, 0, 0), NOT);
        due.is("2 bad ahead of full", j.add(10, 0, 99), BAD);
        due.is("2 full", j.add(11, 0, 0), FULL);
        due.is("2 known", j.count(2), 6);
    }

    private static void out() {
        ZoneJudge j = told(1, 1, 1, 2, 2, 2, 3, 3, 3);
        due.is("3 below", j.out(-1), BAD);
        due.is("3 above", j.out(3), BAD);
        due.is("3 far", j.out(MIN), BAD);
        due.is("3 out", j.out(0), 2);
        due.is("3 moved up", j.point(0, 0), 17);
        due.is("3 moved up", j.point(1, 2), 18);
        due.is("3 no more", j.point(2, 0), BAD);
        due.is("3 last", j.out(1), 1);
        due.is("3 only", j.out(0), 0);
        due.is("3 none", j.out(0), BAD);
        due.is("3 known", j.count(2), 6);
        due.is("3 again free", j.add(1, 1, 1), 1);
    }

    private static void move() {
        ZoneJudge j = told(1, 2, 3, 1, 2, 4);
        due.is("4 x", j.move(0, 0, -15), 16);
        due.is("4 y", j.move(0, 1, 15), 17);
        due.is("4 z", j.move(0, 2, 0), 18);
        due.is("4 went", j.point(0, 0), 0);
        due.is("4 went", j.point(0, 1), 30);
        due.is("4 went", j.point(0, 2), 15);
        due.is("4 so", j.move(0, 2, 0), NOT);
        due.is("4 k", j.move(2, 0, 0), BAD);
        due.is("4 k below", j.move(-1, 0, 0), BAD);
        due.is("4 axis", j.move(0, 3, 0), BAD);
        due.is("4 axis below", j.move(0, -1, 0), BAD);
        due.is("4 v", j.move(0, 0, 16), BAD);
        due.is("4 v below", j.move(0, 0, -16), BAD);
        j = told(1, 2, 3, 1, 2, 4);
        due.is("4 another", j.move(0, 2, 4), NOT);
        due.is("4 stays", j.point(0, 2), 18);
        due.is("4 unknown", j.count(2), 2);
    }

    private static void tolerance() {
        ZoneJudge j = new ZoneJudge();
        due.is("5 so", j.tolerance(10), NOT);
        due.is("5 zero", j.tolerance(0), 10);
        due.is("5 most", j.tolerance(999), 0);
        due.is("5 above", j.tolerance(1000), BAD);
        due.is("5 below", j.tolerance(-1), BAD);
        due.is("5 is", j.count(1), 999);
        due.is("5 known", j.count(2), 2);
    }

    private static void point() {
        ZoneJudge j = told(-15, 0, 15);
        due.is("6 x", j.point(0, 0), 0);
        due.is("6 y", j.point(0, 1), 15);
        due.is("6 z", j.point(0, 2), 30);
        due.is("6 k", j.point(1, 0), BAD);
        due.is("6 k below", j.point(-1, 0), BAD);
        due.is("6 axis", j.point(0, 3), BAD);
        due.is("6 axis below", j.point(0, -1), BAD);
    }

    private static void hull() {
        ZoneJudge j = told(5, 5, 1, 0, 0, 2, 10, 0, 3, 10, 10, 4, 0, 10, 5, 5, 0, 6, 0, 0, 7);
        int[] square = {1, 2, 3, 4, NONE};
        for (int k = 0; k < 5; k++) due.is("7 square " + k, j.hull(2, k), square[k]);
        due.is("7 axis", j.hull(3, 0), BAD);
        due.is("7 axis below", j.hull(-1, 0), BAD);
        due.is("7 k", j.hull(2, -1), BAD);
        due.is("7 far", j.hull(2, MAX), NONE);
        due.is("7 bad and none", j.hull(3, 99), BAD);
        j = told(1, 4, 4, 2, 3, 3, 3, 2, 2, 4, 2, 2);
        due.is("7 line", j.hull(0, 0), 2);
        due.is("7 line", j.hull(0, 1), 0);
        due.is("7 line", j.hull(0, 2), NONE);
        j = told(1, 4, 4, 2, 4, 4);
        due.is("7 place", j.hull(0, 0), 0);
        due.is("7 place", j.hull(0, 1), NONE);
        due.is("7 nothing", new ZoneJudge().hull(0, 0), NONE);
        j = told(-3, 7, 5, -3, 7, -5, 2, 7, 0);
        int[] byY = {1, 2, 0, NONE};
        for (int k = 0; k < 4; k++) due.is("7 along y " + k, j.hull(1, k), byY[k]);
    }

    private static void edge() {
        ZoneJudge j = told(0, 0, 0, 4, 0, 0, 4, 3, 0, 0, 3, 0, 2, 3, 9);
        due.is("8 above", j.edge(2, 0, 0), 9);
        due.is("8 below", j.edge(2, 0, 1), 1);
        due.is("8 least of like ones", j.edge(2, 0, 2), 2);
        due.is("8 last edge", j.edge(2, 3, 0), 16);
        due.is("8 last edge", j.edge(2, 3, 2), 1);
        due.is("8 no more", j.edge(2, 4, 0), NONE);
        due.is("8 axis", j.edge(3, 0, 0), BAD);
        due.is("8 k", j.edge(2, -1, 0), BAD);
        due.is("8 what", j.edge(2, 0, 3), BAD);
        due.is("8 what below", j.edge(2, 0, -1), BAD);
        due.is("8 bad ahead of none", j.edge(2, 99, 3), BAD);
        j = told(0, 0, 0, 2, 2, 0, 0, 2, 0);
        due.is("8 lowest", j.edge(2, 0, 0), 2);
        due.is("8 lowest", j.edge(2, 0, 1), 1);
        due.is("8 opposite", j.edge(2, 0, 2), 2);
        j = told(1, 0, 3, 2, 5, 5, 3, 9, 9);
        due.is("8 along y", j.edge(1, 0, 2), 2);
        j = told(1, 0, 1, 2, 5, 2, 3, 9, 3);
        due.is("8 in line above", j.edge(1, 0, 0), 0);
        due.is("8 in line below", j.edge(1, 0, 1), 1);
        due.is("8 in line", j.edge(1, 0, 2), 0);
        due.is("8 in line, one edge", j.edge(1, 1, 0), NONE);
        due.is("8 one place", told(1, 1, 1, 1, 2, 1).edge(1, 0, 0), NONE);
        due.is("8 nothing", new ZoneJudge().edge(1, 0, 2), NONE);
    }

    private static void count() {
        ZoneJudge j = told(0, 0, 0);
        for (int what = 3; what < 6; what++) due.is("9 one " + what, j.count(what), NONE);
        j = told(1, 1, 1, 0, 0, 0, 3, 4, 12, -3, -4, -12, 2, 2, 2);
        due.is("9 points", j.count(0), 5);
        due.is("9 tolerance", j.count(1), 10);
        due.is("9 undone", j.count(2), 5);
        due.is("9 furthest", j.count(3), 676);
        due.is("9 first", j.count(4), 2);
        due.is("9 second", j.count(5), 3);
        due.is("9 above", j.count(6), BAD);
        due.is("9 below", j.count(-1), BAD);
        j = told(0, 0, 0, 0, 3, 3, 3, 3, 0, 3, 0, 3);
        due.is("9 like ones", j.count(3), 18);
        due.is("9 like ones, first", j.count(4), 0);
        due.is("9 like ones, second", j.count(5), 1);
    }

    private static void judged(ZoneJudge j, int by, long... want) {
        for (int what = 0; what < want.length; what++) {
            due.is("10 judge " + by + ", " + what, j.judge(by, what), want[what]);
        }
    }

    private static void judgeBand() {
        judged(new ZoneJudge(), 0, 0, 1, 0, 0, 1, NONE);
        judged(told(3, 4, 5), 1, 0, 1, 0, 0, 1, 0);
        judged(told(0, 0, 0, 0, 0, 9), 2, 0, 1, 0, 0, 1, 0);
        judged(told(0, 0, 0, 4, 2, 9, 2, 1, 3), 2, 0, 1, 7, 7, 1, 0);
        // a triangle: least square to its longest side
        judged(told(0, 0, 0, 4, 0, 0, 0, 3, 0), 2, 144, 25, 1, 6, 0, 0);
        // a square: of like ones the least a
        judged(told(0, 0, 0, 1, 0, 0, 1, 1, 0, 0, 1, 0), 2, 1, 1, 3, 12, 1, 0);
        ZoneJudge j = told(0, 0, 0, 1, 0, 0, 1, 1, 0, 0, 1, 0);
        j.tolerance(9);
        due.is("10 not good", j.judge(2, 4), 0);
        j.tolerance(10);
        due.is("10 good at the edge", j.judge(2, 4), 1);
        j = told(0, 0, 0, 9, 0, 0, 0, 1, 0, 9, 1, 0, 5, 9, 0);
        due.is("10 worst", j.judge(2, 5), 4);
        due.is("10 judge", j.judge(4, 0), BAD);
        due.is("10 judge below", j.judge(-1, 0), BAD);
        due.is("10 what", j.judge(0, 6), BAD);
        due.is("10 what below", j.judge(0, -1), BAD);
        due.is("10 bad ahead of none", new ZoneJudge().judge(4, 5), BAD);
    }

    private static void judgeSlab() {
        judged(new ZoneJudge(), 3, 0, 1, 0, 0, 1, NONE);
        judged(told(0, 0, 0, 4, 0, 0), 3, 0, 1, 0, 0, 1, 0);
        judged(told(0, 0, 0, 1, 2, 3, 2, 4, 6), 3, 0, 1, 0, 0, 1, 0);
        judged(told(0, 0, 0, 1, 2, 3, 3, 2, 1), 3, 0, 1, 7, 7, 1, 0);
        // a corner of a cube: least square to the slanted face
        judged(told(0, 0, 0, 4, 0, 0, 0, 4, 0, 0, 0, 4), 3, 16, 3, 1, 14, 0, 0);
        // two edges across each other: least square to both
        judged(told(-9, 0, 0, 9, 0, 0, 0, -9, 1, 0, 9, 1), 3, 1, 1, 3, 12, 1, 0);
    }

    private static void ways(ZoneJudge j, int by, int... want) {
        for (int k = 0; k < want.length; k++) due.is("11 way " + by + ", " + k, j.way(by, k), want[k]);
    }

    private static void way() {
        ways(new ZoneJudge(), 0, NONE, NONE, BAD);
        ways(new ZoneJudge(), 3, NONE, NONE, NONE, BAD);
        ways(told(0, 0, 0, 0, 0, 9), 2, NONE, NONE, BAD);
        ways(told(0, 0, 0, 0, 0, 9), 0, 2001, 2000, BAD);
        ways(told(0, 0, 0, 0, 4, 2), 0, 2001, 1998, BAD);
        ways(told(0, 0, 0, 4, 0, 2), 1, 2001, 1998, BAD);
        ways(told(0, 0, 0, 4, -2, 2), 2, 2001, 2002, BAD);
        ways(told(0, 0, 0, 9, 0, 0), 2, 2000, 2001, BAD);
        // a square on its corner: a is 1 by both, so b is the least
        ways(told(1, 0, 0, 0, 1, 0, -1, 0, 0, 0, -1, 0), 2, 2001, 1999, BAD);
        ways(told(0, 0, 0, 1, 2, 3, 2, 4, 6), 3, NONE, NONE, NONE, BAD);
        ways(told(0, 0, 0, 1, 2, 3, 3, 2, 1), 3, 2001, 1998, 2001, BAD);
        // an octahedron: a is 1 by all four, of these b and c are the least
        ways(told(1, 0, 0, -1, 0, 0, 0, 1, 0, 0, -1, 0, 0, 0, 1, 0, 0, -1), 3, 2001, 1999, 1999, BAD);
        ZoneJudge j = told(0, 0, 0, 1, 2, 3, 3, 2, 1);
        due.is("11 judge", j.way(4, 0), BAD);
        due.is("11 judge below", j.way(-1, 0), BAD);
        due.is("11 k below", j.way(3, -1), BAD);
    }

    private static void without() {
        ZoneJudge j = told(0, 0, 0, 4, 0, 0, 0, 3, 0, 1, 1, 5);
        due.is("12 all", j.judge(2, 0), 144);
        for (int k = 0; k < 4; k++) {
            due.is("12 below " + k, j.without(2, k, 1), new long[] {1, 1, 1, 25}[k]);
            due.is("12 above " + k, j.without(2, k, 0), new long[] {1, 1, 1, 144}[k]);
        }
        due.is("12 slab", j.without(3, 3, 0), 0);
        due.is("12 slab below", j.without(3, 3, 1), 1);
        due.is("12 k", j.without(2, 4, 0), BAD);
        due.is("12 k below", j.without(2, -1, 0), BAD);
        due.is("12 judge", j.without(4, 0, 0), BAD);
        due.is("12 judge below", j.without(-1, 0, 0), BAD);
        due.is("12 what", j.without(0, 0, 2), BAD);
        due.is("12 what below", j.without(0, 0, -1), BAD);
        due.is("12 the only one", told(1, 1, 1).without(0, 0, 1), 1);
        due.is("12 all stay", j.count(0), 4);
    }

    private static void lost() {
        ZoneJudge j = told(0, 0, 0, 9, 0, 0, 0, 9, 0, 9, 9, 0);
        // good, while no more than two of the four are left
        due.is("13 half", j.lost(2, 5, 0), 11);
        due.is("13 half below", j.lost(2, 5, 1), 16);
        due.is("13 none lost", j.lost(2, 0, 0), 0);
        due.is("13 none lost below", j.lost(2, 0, 1), 1);
        due.is("13 all lost", j.lost(2, 10, 0), 1);
        due.is("13 all lost below", j.lost(2, 10, 1), 1);
        due.is("13 3 of 10", j.lost(2, 3, 0), 3483);
        due.is("13 3 of 10 below", j.lost(2, 3, 1), 10000);
        due.is("13 flat", j.lost(1, 3, 0), 1);
        j.tolerance(999);
        due.is("13 wide", j.lost(2, 0, 0), 1);
        due.is("13 c", j.lost(2, 11, 0), BAD);
        due.is("13 c below", j.lost(2, -1, 0), BAD);
        due.is("13 slab", j.lost(3, 5, 0), BAD);
        due.is("13 judge below", j.lost(-1, 5, 0), BAD);
        due.is("13 what", j.lost(2, 5, 2), BAD);
        due.is("13 what below", j.lost(2, 5, -1), BAD);
        j = told(1, 1, 1, 1, 1, 2, 1, 1, 3);
        j.tolerance(0);
        due.is("13 one place", j.lost(2, 4, 0), 1);
        due.is("13 all stay", j.count(0), 3);
    }

    private static void type() {
        ZoneJudge j = new ZoneJudge();
        due.is("14 below", j.type(31), BAD);
        due.is("14 above", j.type(127), BAD);
        due.is("14 far", j.type(65536 + '1'), BAD);
        due.is("14 least", j.type(32), 1);
        due.is("14 most", j.type(126), 2);
        for (int k = 3; k <= 90; k++) due.is("14 more", j.type('x'), k);
        due.is("14 full", j.type('x'), FULL);
        due.is("14 bad ahead of full", j.type(31), BAD);
        due.is("14 fault", j.read(), -21);
        due.is("14 empty", j.type('x'), 1);
    }

    private static void read() {
        reads("1,2,3", 1);
        reads("-15,15,-0", 1);
        reads("  - 1 , 02,-03  ;4,5,6  ", 2);
        reads("9,9,9", 1);
        reads("0,0,1;0,0,2;0,0,3;0,0,4;0,0,5;0,0,6;0,0,7;0,0,8;0,0,9;0,0,0 ", 10);
        ZoneJudge j = told(9, 9, 9);
        typed(j, "-15,07,- 3;1,1,1");
        j.read();
        due.is("15 x", j.point(0, 0), 0);
        due.is("15 y", j.point(0, 1), 22);
        due.is("15 z", j.point(0, 2), 12);
        due.is("15 second", j.point(1, 2), 16);
        due.is("15 undone", j.undo(), 1);
        due.is("15 as it was", j.point(0, 0), 24);
    }

    private static void readFaults() {
        reads("", -20);
        reads("   ", -23);
        reads("a", -20);
        reads("  a", -22);
        reads("-", -21);
        reads("--1,2,3", -21);
        reads("1,,2", -22);
        reads("1;2", -21);
        reads("1,2;3", -23);
        reads("1,2,3,4", -25);
        reads("1,2,3;", -26);
        reads("1,2,3; ", -27);
        reads("1,2,3;;", -26);
        reads("1 5,2,3", -22);
        reads("1,2,3 -", -26);
        reads("16,2,3", -20);
        reads(" -16,2,3", -21);
        reads("- 99", -20);
        reads("155,2,3", -22);
        reads("165,2,3", -20);
        reads("1,2,3;1,2,3", -30);
        reads("1,2,3;1,2, 03x", -31);
        reads("0,0,0;0,0,-0", -30);
        reads("1,2,10;1,2,105", -33);
        reads("1,2,10;1,2,10 5", -31);
        reads("1,2,3;1,2,35", -30);
        reads("0,0,1;0,0,2;0,0,3;0,0,4;0,0,5;0,0,6;0,0,7;0,0,8;0,0,9;0,0,0;", -79);
        reads("0,0,1;0,0,2;0,0,3;0,0,4;0,0,5;0,0,6;0,0,7;0,0,8;0,0,9;0,0,0 x", -80);
    }

    private static void drift() {
        ZoneJudge j = new ZoneJudge();
        due.is("16 no points", j.drift(2), 0);
        due.is("16 no points, undone", j.count(2), 2);
        due.is("16 draw", j.seed(1), 377401575);
        due.is("16 none", j.drift(0), BAD);
        due.is("16 above", j.drift(41), BAD);
        due.is("16 below", j.drift(MIN), BAD);
        due.is("16 refused", j.seed(1), 1);
        // by 1 the draw becomes 1103527590: v is 16838: POINT 0; by 4 4209: x; by 16 1052: 29 left over, 14
        j = told(3, 3, 3, 4, 4, 4);
        due.is("16 went", j.drift(1), 1);
        due.is("16 there", j.point(0, 0), 29);
        due.is("16 else", j.point(0, 1), 18);
        j.seed(1);
        due.is("16 there already", j.drift(1), 0);
        due.is("16 may be undone", j.count(2), 4);
        j = told(3, 3, 3, 14, 3, 3);
        due.is("16 another one is there", j.drift(1), 0);
        due.is("16 stays", j.point(0, 0), 18);
        // then v is 5758: POINT 0; by 4 1439: z; by 16 359: 18 left over, 3; then 10113: POINT 1, z, -3
        j = told(3, 3, 4, 4, 4, 4);
        due.is("16 three turns", j.drift(3), 3);
        due.is("16 z", j.point(0, 2), 18);
        due.is("16 POINT 1", j.point(1, 2), 12);
    }

    private static void undo() {
        ZoneJudge j = new ZoneJudge();
        due.is("17 none", j.undo(), NONE);
        j.add(1, 1, 1);
        j.add(2, 2, 2);
        j.tolerance(50);
        j.move(0, 0, 5);
        j.out(1);
        j.seed(77);
        due.is("17 out", j.undo(), 4);
        due.is("17 out", j.count(0), 2);
        due.is("17 draw too", j.seed(33), 1);
        due.is("17 move", j.undo(), 3);
        due.is("17 move", j.point(0, 0), 16);
        due.is("17 draw too", j.seed(1), 1);
        due.is("17 tolerance", j.undo(), 2);
        due.is("17 tolerance", j.count(1), 10);
        due.is("17 add", j.undo(), 1);
        due.is("17 add", j.count(0), 1);
        due.is("17 add", j.undo(), 0);
        due.is("17 add", j.count(0), 0);
        due.is("17 none", j.undo(), NONE);
        for (int k = 1; k <= 8; k++) j.tolerance(k);
        for (int k = 5; k >= 0; k--) due.is("17 six", j.undo(), k);
        due.is("17 older ones lost", j.count(1), 2);
        j.drift(3);
        due.is("17 a turn", j.undo(), 2);
        due.is("17 a turn", j.seed(1), 377401575);
    }

    private static void seed() {
        ZoneJudge j = new ZoneJudge();
        due.is("18 most", j.seed(MAX), 1);
        due.is("18 zero", j.seed(0), MAX);
        due.is("18 below", j.seed(-1), BAD);
        due.is("18 far", j.seed(MIN), BAD);
        due.is("18 stays", j.seed(0), 0);
        due.is("18 not undone", j.count(2), 0);
        j.drift(1);
        due.is("18 drawn", j.seed(0), 12345);
    }

    private static void image() {
        ZoneJudge j = new ZoneJudge();
        due.is("20 none", j.restore(), NONE);
        j.add(1, 1, 1);
        j.tolerance(44);
        j.seed(9);
        due.is("19 image", j.image(), 1);
        j.sheet(0, 0, 4);
        typed(j, "1,");
        j.out(0);
        j.tolerance(3);
        j.drift(5);
        for (int again = 0; again < 2; again++) {
            due.is("20 restore", j.restore(), 1);
            due.is("20 points", j.count(0), 1);
            due.is("20 tolerance", j.count(1), 44);
            due.is("20 undone", j.count(2), 2);
            due.is("20 draw", j.seed(5), 9);
            due.is("20 undo", j.undo(), 1);
            due.is("20 undo", j.count(1), 10);
            due.is("20 undo", j.undo(), 0);
            due.is("20 undo", j.count(0), 0);
        }
        due.is("19 tape stays", j.type('2'), 3);
        due.is("19 sheets stay", j.drop(0), 4);
        due.is("19 image", j.image(), 1);
        due.is("20 later image", j.restore(), 1);
        due.is("20 later image", j.count(0), 0);
    }

    private static void corners() {
        ZoneJudge j = new ZoneJudge();
        due.is("21 null", j.corners(0, 0, 0, 1), NULL);
        filled(j, 0, 2, 24, 9, 9, 0, 0, 2, 0, 1, 0, 0, 0, 1, 1, 2, 2, 0, 2, 2, 2);
        due.is("21 one", j.corners(0, 2, 0, 1), 1);
        due.is("21 first of alike", j.corners(0, 2, 2, 9), 1 + 2 + 32 + 64);
        due.is("21 line", j.corners(0, 2, 2, 3), 3);
        due.is("21 alike alone", j.corners(0, 2, 20, 2), 1);
        due.is("21 at the end", j.corners(0, 2, 22, 1), 1);
        due.is("21 behind the end", j.corners(0, 2, 23, 1), INDEX);
        due.is("21 i", j.corners(0, 2, -1, 1), INDEX);
        due.is("21 far", j.corners(0, 2, MAX, 10), INDEX);
        due.is("21 cast", j.corners(0, 3, -1, 1), CAST);
        due.is("21 sheet", j.corners(4, 2, 0, 1), BAD);
        due.is("21 sheet below", j.corners(-1, 2, 0, 1), BAD);
        due.is("21 lane", j.corners(0, 4, 0, 1), BAD);
        due.is("21 lane below", j.corners(0, -1, 0, 1), BAD);
        due.is("21 n", j.corners(1, 2, -1, 0), BAD);
        due.is("21 n", j.corners(1, 2, -1, 11), BAD);
        due.is("21 n far", j.corners(0, 2, 0, MIN), BAD);
        j.item(0, 2, 3, -16);
        due.is("21 not", j.corners(0, 2, 0, 2), NOT);
        filled(j, 1, 2, 3, 99);
        due.is("21 index ahead of not", j.corners(1, 2, 0, 2), INDEX);
        due.is("21 beside it", j.corners(0, 2, 4, 2), 3);
        filled(j, 1, 3, 2, 0x100000001L, 1);
        due.is("21 long", j.corners(1, 3, 0, 1), NOT);
    }

    private static void film() {
        ZoneJudge j = told(1, 2, 3, 15, -15, 0);
        due.is("22 null", j.film(0, 0, 0, 0), NULL);
        j.sheet(0, 0, 6);
        due.is("22 cast", j.film(0, 0, 1, 99), CAST);
        due.is("22 film", j.film(0, 0, 0, 2), 4);
        due.is("22 index", j.film(0, 0, 0, 3), INDEX);
        due.is("22 i", j.film(0, 0, 0, -1), INDEX);
        due.is("22 far", j.film(0, 0, 0, MAX), INDEX);
        due.is("22 axis", j.film(3, 1, 0, -1), BAD);
        due.is("22 axis below", j.film(-1, 0, 0, 0), BAD);
        due.is("22 sheet", j.film(0, 4, 0, 0), BAD);
        due.is("22 lane", j.film(0, 0, 4, 0), BAD);
        holds(j, "22 along x", 0, 0, 2, 3, -15, 0);
        j.film(1, 0, 0, 0);
        holds(j, "22 along y", 1, 3, 15, 0, -15, 0);
        j.film(2, 0, 0, 1);
        holds(j, "22 along z", 1, 1, 2, 15, -15, 0);
        j.out(0);
        j.out(0);
        due.is("22 no points", j.film(0, 0, 0, 6), 0);
        due.is("22 no points, index", j.film(0, 0, 0, 7), INDEX);
        due.is("22 no points, i", j.film(0, 0, 0, -1), INDEX);
    }

    private static void sheet() {
        ZoneJudge j = new ZoneJudge();
        due.is("23 none", j.sheet(0, 0, 0), 0);
        due.is("23 most", j.sheet(3, 3, 24), 24);
        due.is("23 above", j.sheet(0, 0, 25), BAD);
        due.is("23 below", j.sheet(0, 0, -1), SIZE);
        due.is("23 far below", j.sheet(0, 0, MIN), SIZE);
        due.is("23 bad ahead of size", j.sheet(4, 0, -1), BAD);
        due.is("23 bad ahead of size", j.sheet(0, 4, -1), BAD);
        due.is("23 sheet below", j.sheet(-1, 0, 1), BAD);
        due.is("23 lane below", j.sheet(0, -1, 1), BAD);
        due.is("23 refused", j.drop(0), 0);
        filled(j, 1, 0, 4, 5, 6, 7, 8);
        j.sheet(1, 1, 4);
        due.is("23 another lane", j.item(1, 0, 0, 1), CAST);
        due.is("23 new row", j.corners(1, 1, 0, 2), 1);
        due.is("23 new row", itemOf(j, 1, 1, 3), 0);
    }

    private static void drop() {
        ZoneJudge j = new ZoneJudge();
        due.is("24 null", j.drop(0), NULL);
        due.is("24 above", j.drop(4), BAD);
        due.is("24 below", j.drop(-1), BAD);
        j.sheet(0, 2, 7);
        due.is("24 drop", j.drop(0), 7);
        due.is("24 nothing", j.drop(0), NULL);
        due.is("24 nothing", j.item(0, 2, 0, 1), NULL);
        j.sheet(0, 2, 7);
        due.is("24 again", j.drop(0), 7);
    }

    private static void item() {
        ZoneJudge j = new ZoneJudge();
        due.is("25 null", j.item(0, 0, 0, 1), NULL);
        for (int lane = 0; lane < 4; lane++) {
            int bits = 8 << lane;
            j.sheet(lane, lane, 4);
            due.is("25 item", j.item(lane, lane, 3, 1), 1);
            due.is("25 index", j.item(lane, lane, 4, 1), INDEX);
            due.is("25 i", j.item(lane, lane, -1, 1), INDEX);
            due.is("25 cast", j.item(lane, (lane + 1) % 4, -1, 1), CAST);
            if (lane < 3) {
                j.item(lane, lane, 0, (1L << bits) + 5);
                due.is("25 lowest bits", j.corners(lane, lane, 0, 1), 1);
                j.item(lane, lane, 0, (1L << bits) - 3);
                due.is("25 a sign", j.corners(lane, lane, 0, 1), 1);
            }
            j.item(lane, lane, 0, 1L << bits - 1);
            due.is("25 least", j.corners(lane, lane, 0, 1), NOT);
            j.item(lane, lane, 0, (1L << bits - 1) - 1);
            due.is("25 greatest", j.corners(lane, lane, 0, 1), NOT);
        }
        due.is("25 sheet", j.item(4, 0, 0, 1), BAD);
        due.is("25 sheet below", j.item(-1, 0, 0, 1), BAD);
        due.is("25 lane", j.item(0, 4, 0, 1), BAD);
        due.is("25 lane below", j.item(0, -1, 0, 1), BAD);
        filled(j, 0, 0, 2, 3 - 256);
        due.is("25 value", itemOf(j, 0, 0, 0), 3);
        filled(j, 0, 1, 2, 65536 - 4);
        due.is("25 value", itemOf(j, 0, 1, 0), -4);
        filled(j, 0, 2, 2, (1L << 33) + 15);
        due.is("25 value", itemOf(j, 0, 2, 0), 15);
        filled(j, 0, 3, 2, -15);
        due.is("25 value", itemOf(j, 0, 3, 0), -15);
    }

    private static void copy() {
        ZoneJudge j = new ZoneJudge();
        due.is("26 from", j.copy(4, 0, 0, 0, 0), BAD);
        due.is("26 from below", j.copy(-1, 0, 0, 0, 0), BAD);
        due.is("26 to", j.copy(0, 0, 4, 0, 0), BAD);
        due.is("26 to below", j.copy(0, 0, -1, 0, 0), BAD);
        due.is("26 null", j.copy(0, -1, 0, 0, 0), NULL);
        filled(j, 0, 0, 5, 1, 2, 3, 4, 5);
        due.is("26 null to", j.copy(0, 0, 1, 0, 0), NULL);
        due.is("26 null from", j.copy(1, 0, 0, 0, 0), NULL);
        j.sheet(1, 1, 5);
        due.is("26 cast", j.copy(0, -1, 1, 0, -1), CAST);
        due.is("26 n", j.copy(0, 0, 0, 0, -1), INDEX);
        due.is("26 n far", j.copy(0, 0, 0, 0, MIN), INDEX);
        due.is("26 n far", j.copy(0, 1, 0, 1, MAX), INDEX);
        due.is("26 i", j.copy(0, -1, 0, 0, 1), INDEX);
        due.is("26 j", j.copy(0, 0, 0, -1, 1), INDEX);
        due.is("26 i no item", j.copy(0, 6, 0, 0, 0), INDEX);
        due.is("26 j no item", j.copy(0, 0, 0, 6, 0), INDEX);
        due.is("26 no item at the end", j.copy(0, 5, 0, 5, 0), 0);
        due.is("26 from behind", j.copy(0, 1, 0, 0, 5), INDEX);
        due.is("26 to behind", j.copy(0, 0, 0, 1, 5), INDEX);
        holds(j, "26 refused", 1, 2, 3, 4, 5);
        due.is("26 upwards", j.copy(0, 0, 0, 1, 4), 4);
        holds(j, "26 upwards", 1, 1, 2, 3, 4);
        due.is("26 downwards", j.copy(0, 2, 0, 0, 3), 3);
        holds(j, "26 downwards", 2, 3, 4, 3, 4);
        filled(j, 2, 0, 3, 7, 8, 9);
        due.is("26 another", j.copy(2, 1, 0, 3, 2), 2);
        holds(j, "26 another", 2, 3, 4, 8, 9);
    }
}
