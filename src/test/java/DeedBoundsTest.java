/** Each sentence of the document on THE TAPE, TEXTS, DRIFTS, UNDONE, IMAGES (promises 14 to 20) that names a bound. */
public final class DeedBoundsTest extends Setup {
    /** Nine POINTS of a TEXT, and room for a tenth: 54 letters. */
    private static final String NINE = "0,0,1;0,0,2;0,0,3;0,0,4;0,0,5;0,0,6;0,0,7;0,0,8;0,0,9;";

    public static void main(String[] args) {
        letters();
        fullTape();
        emptyTape();
        onePointOrMore();
        tenPointsAtMost();
        oneOrTwoFigures();
        numberReach();
        firstTwoFigures();
        minus();
        blanks();
        wrongLetters();
        theEnd();
        toldAhead();
        thirdFigureAhead();
        firstFaultOfSeveral();
        furthestFault();
        textTakesThePlace();
        faultLeavesAllElse();
        driftBounds();
        driftTells();
        driftWrapsAround();
        driftExtremes();
        driftOfNone();
        driftStays();
        seedBounds();
        sixAreKnown();
        eachIsKnown();
        othersAreNot();
        undoneOneByOne();
        undoneDraw();
        undoneTurns();
        undoneAndDoneAgain();
        noImage();
        imageOfNothing();
        imageKeepsAll();
        imageKeepsSix();
        imageLeavesSheetsAndTape();
        latestImage();
        due.end();
    }

    /** BAD: not 32 .. 126. */
    private static void letters() {
        ZoneJudge j = new ZoneJudge();
        for (int letter : new int[] {31, 127, 0, -1, 10, 128, 255, 256 + 32, 65536 + 32, MIN, MAX}) {
            due.is("no letter " + letter, j.type(letter), BAD);
        }
        due.is("least", j.type(32), 1);
        due.is("most", j.type(126), 2);
        due.is("the most can't stand there", j.read(), -21);
        for (int letter = 32; letter <= 126; letter++) {
            due.is("letter " + letter, j.type(letter), 1);
            boolean isFigure = letter >= '0' && letter <= '9';
            due.is("alone " + letter, j.read(), isFigure || letter == '-' || letter == ' ' ? -21 : -20);
        }
    }

    /** FULL: 90. */
    private static void fullTape() {
        ZoneJudge j = new ZoneJudge();
        typed(j, "1,2,3");
        for (int k = 6; k <= 89; k++) due.is("blank", j.type(' '), k);
        due.is("the 90th", j.type(' '), 90);
        due.is("the 91st", j.type('x'), FULL);
        due.is("still full", j.type(' '), FULL);
        due.is("bad ahead of full", j.type(127), BAD);
        due.is("bad ahead of full", j.type(31), BAD);
        due.is("a text of 90 letters", j.read(), 1);
        isAt("told", j, 0, 1, 2, 3);
        due.is("empty then", j.type(' '), 1);
        j.read();
        for (int k = 1; k <= 85; k++) j.type(' ');
        typed(j, "4,5,6");
        due.is("figures at the end of 90 letters", j.read(), 1);
        isAt("told", j, 0, 4, 5, 6);
    }

    /** THE TAPE is empty then, by a FAULT, too. */
    private static void emptyTape() {
        ZoneJudge j = new ZoneJudge();
        due.is("empty", j.read(), -20);
        due.is("empty again", j.read(), -20);
        typed(j, "1,2,3");
        due.is("a text", j.read(), 1);
        due.is("empty behind a text", j.read(), -20);
        typed(j, "1,2,x");
        due.is("a fault", j.read(), -24);
        due.is("empty behind a fault", j.read(), -20);
        due.is("first letter", j.type('7'), 1);
        due.is("nothing is left of what was there", j.read(), -21);
    }

    /** One or more with ; between. */
    private static void onePointOrMore() {
        reads("", -20);
        reads(";", -20);
        reads("0,0,0", 1);
        reads("0,0,0;0,0,1", 2);
        reads("0,0,0;", -26);
        reads(";0,0,0", -20);
        reads("0,0,0;;0,0,1", -26);
    }

    /** 10 at most; behind the 10th a ; is a FAULT. */
    private static void tenPointsAtMost() {
        reads(NINE + "0,0,0", 10);
        reads(NINE + "0,0,0  ", 10);
        reads(NINE + "0,0,0;", -20 - 59);
        reads(NINE + "0,0,0 ;", -20 - 60);
        reads(NINE + "0,0,0;1,1,1", -20 - 59);
        reads(NINE + "0,0,0;x", -20 - 59);
        reads(NINE, -20 - 54);
        reads(NINE.substring(0, 53), 9);
        ZoneJudge j = tenCorners();
        typed(j, NINE + "-1,-2,-3");
        due.is("ten where ten were", j.read(), 10);
        isAt("the ninth", j, 8, 0, 0, 9);
        isAt("the tenth", j, 9, -1, -2, -3);
        due.is("full", j.add(1, 1, 1), FULL);
    }

    /** A number: perhaps - , then one or two figures; a third figure is a FAULT. */
    private static void oneOrTwoFigures() {
        reads("1,2,3", 1);
        reads("01,02,03", 1);
        reads("00,-00,-0", 1);
        reads(",2,3", -20);
        reads("001,2,3", -22);
        reads("1,002,3", -24);
        reads("1,2,003", -26);
        reads("150,2,3", -22);
        reads("-150,2,3", -23);
        reads("1,2,1500", -26);
        ZoneJudge j = new ZoneJudge();
        typed(j, "09,-08,10");
        j.read();
        isAt("two figures", j, 0, 9, -8, 10);
    }

    /** A FAULT: the first letter (its - , if there is one) of a number that isn't -15 .. 15. */
    private static void numberReach() {
        reads("15,15,15", 1);
        reads("-15,-15,-15", 1);
        for (String far : new String[] {"16", "17", "20", "99"}) {
            reads(far + ",0,0", -20);
            reads("0," + far + ",0", -22);
            reads("0,0," + far, -24);
            reads("-" + far + ",0,0", -20);
            reads("0,-" + far + ",0", -22);
            reads("0,0,-" + far, -24);
            reads("0,0, - " + far, -25);
        }
        reads(NINE + "0,0,16", -20 - 58);
        ZoneJudge j = new ZoneJudge();
        typed(j, "15,-15,0");
        j.read();
        isAt("most, least", j, 0, 15, -15, 0);
    }

    /** By its first two figures: a third one comes too late. */
    private static void firstTwoFigures() {
        reads("160,0,0", -20);
        reads("-160,0,0", -20);
        reads("0,0,999", -24);
        reads("0,0,- 999", -24);
        reads("155,0,0", -22);
        reads("016,0,0", -22);
        reads("16 0,0,0", -20);
    }

    private static void minus() {
        reads("-", -21);
        reads("- ", -22);
        reads("-,1,1", -21);
        reads("--1,1,1", -21);
        reads("- -1,1,1", -22);
        reads("1-,1,1", -21);
        reads("1,1,1-", -25);
        reads("1,1,-;", -25);
        reads("+1,1,1", -20);
        reads("-1,- 1,-  1", 1);
        ZoneJudge j = new ZoneJudge();
        typed(j, "- 1,-  2,-0");
        j.read();
        isAt("below 0", j, 0, -1, -2, 0);
    }

    /** Blanks count for nothing, but end a row of figures. */
    private static void blanks() {
        reads(" 1 , 2 , 3 ", 1);
        reads("  1  ,  2  ,  3  ;  4  ,  5  ,  6  ", 2);
        reads("1 5,2,3", -22);
        reads("1  5,2,3", -23);
        reads("15 1,2,3", -23);
        reads("1,2,3 4", -26);
        reads("- 1 5,2,3", -24);
        reads(" ", -21);
        reads("  x", -22);
        reads("1 x", -22);
        reads("1, x", -23);
        reads("1,2,3; ", -27);
        reads("1,2,3 ;x", -27);
    }

    /** A FAULT is the first letter (behind blanks) that can't stand there. */
    private static void wrongLetters() {
        reads("x", -20);
        reads(",", -20);
        reads("1;2,3", -21);
        reads("1,;", -22);
        reads("1,,", -22);
        reads("1,2;3", -23);
        reads("1,2,3,4", -25);
        reads("1,2,3x", -25);
        reads("1,2,3:", -25);
        reads("1,2,/", -24);
        reads("1.5,2,3", -21);
        reads(NINE + "0,0,0x", -20 - 59);
        reads(NINE + "0,0,0,", -20 - 59);
    }

    /** The end: how many letters there are. */
    private static void theEnd() {
        reads("1", -21);
        reads("1 ", -22);
        reads("1,", -22);
        reads("1,2", -23);
        reads("1,2,", -24);
        reads("1,2,  ", -26);
        reads("1,2,-", -25);
        reads("1,2,3;4", -27);
        reads("1,2,3;4,5", -29);
        reads("15,15", -25);
    }

    /** The last number of a POINT that was told ahead of it: its first letter. */
    private static void toldAhead() {
        reads("1,2,3;1,2,3", -30);
        reads("1,2,3;1,2,4", 2);
        reads("1,2,3;1,3,3", 2);
        reads("1,2,3;2,2,3", 2);
        reads("1,2,3;3,2,1;1,2,3", -36);
        reads("1,2,-3;1,2,-3", -31);
        reads("1,2,-3;1,2, - 3", -32);
        reads("1,2,-3;1,2,3", 2);
        reads("0,0,0;0,0,-0", -30);
        reads("0,0,0;-0,-0,-0", -32);
        reads("1,2,3;01,02,03", -32);
        reads("1,2,1;1,2,12", 2);
        reads(NINE + "0,0,9", -20 - 58);
        reads(NINE + "0,0,1", -20 - 58);
        reads("9,9,9", 1);
    }

    /** A third figure goes ahead of that. */
    private static void thirdFigureAhead() {
        reads("1,2,10;1,2,10", -31);
        reads("1,2,10;1,2,105", -33);
        reads("1,2,10;1,2,10 5", -31);
        reads("1,2,3;1,2,035", -32);
        reads("1,2,-10;1,2,-100", -35);
    }

    /** The first FAULT, of several. */
    private static void firstFaultOfSeveral() {
        reads("16,x", -20);
        reads("x,16", -20);
        reads("1,2,3;1,2,3x", -30);
        reads("1,2,3;1,2,3,", -30);
        reads("1,2,3;1,2,3;16,0,0", -30);
        reads("1,2,3;16,2,3;1,2,3", -26);
        reads(NINE + "0,0,1;", -20 - 58);
    }

    /** -20 less its place: from the first place to the one behind 90 letters. */
    private static void furthestFault() {
        ZoneJudge j = new ZoneJudge();
        for (int k = 0; k < 90; k++) j.type(' ');
        due.is("90 blanks", j.read(), -110);
        for (int k = 0; k < 89; k++) j.type(' ');
        j.type('x');
        due.is("the 90th letter", j.read(), -109);
        j.type('x');
        for (int k = 1; k < 90; k++) j.type('1');
        due.is("the first letter", j.read(), -20);
        for (int k = 0; k < 89; k++) j.type(' ');
        j.type('1');
        due.is("a number at the end", j.read(), -110);
    }

    /** POINTS are those of the TEXT alone. */
    private static void textTakesThePlace() {
        ZoneJudge j = told(1, 2, 3, 4, 5, 6, 7, 8, 9);
        typed(j, "4,5,6;-1,0,1");
        due.is("two", j.read(), 2);
        isAt("first", j, 0, 4, 5, 6);
        isAt("second", j, 1, -1, 0, 1);
        due.is("no third", j.point(2, 0), BAD);
        due.is("known as one", j.count(2), 4);
        due.is("undone as one", j.undo(), 3);
        isAt("as ahead", j, 2, 7, 8, 9);
    }

    private static void faultLeavesAllElse() {
        ZoneJudge j = told(1, 2, 3, 4, 5, 6);
        j.tolerance(20);
        typed(j, "7,7,7;8,8,8;8,8,8");
        due.is("fault", j.read(), -36);
        due.is("points stay", j.count(0), 2);
        isAt("first stays", j, 0, 1, 2, 3);
        isAt("second stays", j, 1, 4, 5, 6);
        due.is("tolerance stays", j.count(1), 20);
        due.is("not known", j.count(2), 3);
        due.is("undone is what was ahead", j.undo(), 2);
        due.is("undone is what was ahead", j.count(1), 10);
    }

    /** n turns, 1 .. 40. */
    private static void driftBounds() {
        ZoneJudge j = told(1, 2, 3);
        for (int n : new int[] {0, -1, 41, MIN, MAX}) {
            due.is("drift " + n, j.drift(n), BAD);
            due.is("draw stays", drawOf(j), 1);
        }
        isAt("stays", j, 0, 1, 2, 3);
        due.is("nothing known", j.count(2), 1);
        j.drift(1);
        due.is("one turn", drawOf(j), 1103527590);
        j.seed(1);
        j.drift(40);
        long draw = 1;
        for (int turn = 0; turn < 40; turn++) draw = (draw * 1103515245L + 12345L) % 2147483648L;
        due.is("forty turns", drawOf(j), draw);
    }

    /** How many times a POINT went elsewhere: not where it is, not where another one is. */
    private static void driftTells() {
        // by 1 POINT 0 goes to 14 as x
        ZoneJudge j = told(13, 0, 0);
        due.is("went", j.drift(1), 1);
        isAt("went", j, 0, 14, 0, 0);
        j = told(14, 0, 0);
        due.is("there already", j.drift(1), 0);
        due.is("known", j.count(2), 2);
        j = told(13, 0, 0, 14, 0, 0);
        due.is("another one is there", j.drift(1), 0);
        isAt("stays", j, 0, 13, 0, 0);
        isAt("the other stays", j, 1, 14, 0, 0);
        due.is("drawn all the same", drawOf(j), 1103527590);
        due.is("known", j.count(2), 3);
        j = told(13, 0, 0, 14, 0, 1);
        due.is("another one is beside it", j.drift(1), 1);
    }

    /** The lowest 31 bits. */
    private static void driftWrapsAround() {
        ZoneJudge j = new ZoneJudge();
        int[][] next = {{0, 12345}, {1, 1103527590}, {1103527590, 377401575}, {MAX, 1043980748}, {MAX - 1, 2087949151},
            {1 << 30, 1073754169}, {2088216195, 0}, {230538014, MAX}};
        for (int[] pair : next) {
            j.seed(pair[0]);
            due.is("no points", j.drift(1), 0);
            due.is("draw behind " + pair[0], drawOf(j), pair[1]);
        }
    }

    /** The least and the greatest v; -15 and 15; the last of ten POINTS. */
    private static void driftExtremes() {
        ZoneJudge j = told(1, 1, 1, 2, 2, 2, 3, 3, 3);
        drawn(j, 2088216195, 1);
        isAt("v 0: POINT 0, x, -15", j, 0, -15, 1, 1);
        drawn(j, 2032319262, 0);
        due.is("v is cut: 65535 by 65536 is 0", drawOf(j), 65535);
        drawn(j, 1742513795, 1);
        isAt("v 1: POINT 1", j, 1, -15, 2, 2);
        drawn(j, 1507305091, 1);
        isAt("v 480: POINT 0, x, 15", j, 0, 15, 1, 1);
        drawn(j, 230538014, 1);
        isAt("v 32767: POINT 1, y, -14", j, 1, -15, -14, 2);
        isAt("the third stays", j, 2, 3, 3, 3);
        j = tenCorners();
        drawn(j, 543467139, 1);
        isAt("v 489: POINT 9, z, 15", j, 9, -5, 10, 15);
        drawn(j, 1381410435, 1);
        isAt("v 499: POINT 9, y, -15", j, 9, -5, -15, 15);
        drawn(j, 230538014, 1);
        isAt("v 32767: POINT 7, y, -14", j, 7, -3, -14, 0);
        j = told(7, 7, 7);
        drawn(j, 230538014, 1);
        isAt("one point alone", j, 0, 7, -14, 7);
    }

    private static void drawn(ZoneJudge j, int seed, int went) {
        j.seed(seed);
        due.is("one turn by " + seed, j.drift(1), went);
    }

    /** Nothing, if there is none: but it is drawn, and known. */
    private static void driftOfNone() {
        ZoneJudge j = new ZoneJudge();
        due.is("nothing", j.drift(3), 0);
        due.is("no points", j.count(0), 0);
        due.is("known", j.count(2), 3);
        j.undo();
        due.is("drawn", drawOf(j), 377401575);
        due.is("none went", j.drift(40), 0);
        due.is("six known", j.count(2), 6);
    }

    private static void driftStays() {
        ZoneJudge j = tenCorners();
        j.tolerance(77);
        int went = j.drift(40);
        due.isTrue("went at most as often as it turned", went > 0 && went <= 40);
        due.is("as many points", j.count(0), 10);
        due.is("tolerance stays", j.count(1), 77);
        for (int k = 0; k < 10; k++) {
            for (int axis = 0; axis < AXES; axis++) due.isTrue("in reach", j.point(k, axis) >= 0 && j.point(k, axis) <= 30);
        }
    }

    /** BAD: below 0. */
    private static void seedBounds() {
        ZoneJudge j = new ZoneJudge();
        due.is("1 at first", j.seed(7), 1);
        for (int v : new int[] {-1, MIN, -7}) due.is("seed " + v, j.seed(v), BAD);
        due.is("refused", j.seed(0), 7);
        due.is("least", j.seed(MAX), 0);
        due.is("most", j.seed(MAX), MAX);
        due.is("the same again is taken", j.seed(1), MAX);
        due.is("not known", j.count(2), 0);
    }

    /** 6 are known, older ones lost. */
    private static void sixAreKnown() {
        ZoneJudge j = new ZoneJudge();
        for (int k = 1; k <= 6; k++) {
            j.add(k, 0, 0);
            due.is("known", j.count(2), k);
        }
        j.add(7, 0, 0);
        due.is("still six", j.count(2), 6);
        for (int k = 5; k >= 0; k--) {
            due.is("undone", j.undo(), k);
            due.is("points", j.count(0), k + 1);
            due.is("known", j.count(2), k);
        }
        due.is("the first is not undone", j.undo(), NONE);
        due.is("one point is left", j.count(0), 1);
        due.is("none again", j.undo(), NONE);
    }

    /** A POINT come, out, moved, a TOLERANCE told, a TEXT, a turn of a DRIFT. */
    private static void eachIsKnown() {
        ZoneJudge j = new ZoneJudge();
        j.add(1, 2, 3);
        due.is("come", j.count(2), 1);
        j.move(0, 0, 5);
        due.is("moved", j.count(2), 2);
        j.tolerance(5);
        due.is("told", j.count(2), 3);
        typed(j, "5,5,5;6,6,6");
        j.read();
        due.is("a text", j.count(2), 4);
        j.drift(1);
        due.is("a turn", j.count(2), 5);
        j.out(1);
        due.is("out", j.count(2), 6);
        due.is("undone: out", j.undo(), 5);
        isAt("undone: out", j, 1, 6, 6, 6);
        due.is("undone: a turn", j.undo(), 4);
        isAt("undone: a turn", j, 0, 5, 5, 5);
        due.is("undone: a turn, drawn", drawOf(j), 1);
        due.is("undone: a text", j.undo(), 3);
        due.is("undone: a text", j.count(0), 1);
        isAt("undone: a text", j, 0, 5, 2, 3);
        due.is("undone: told", j.undo(), 2);
        due.is("undone: told", j.count(1), 10);
        due.is("undone: moved", j.undo(), 1);
        isAt("undone: moved", j, 0, 1, 2, 3);
        due.is("undone: come", j.undo(), 0);
        due.is("undone: come", j.count(0), 0);
    }

    /** Neither what is refused, nor a seed, letters, IMAGES, SHEETS. */
    private static void othersAreNot() {
        ZoneJudge j = told(1, 2, 3);
        j.add(1, 2, 3);
        j.add(16, 0, 0);
        j.out(1);
        j.move(0, 0, 1);
        j.tolerance(10);
        j.drift(0);
        j.read();
        j.seed(5);
        j.type('1');
        j.image();
        j.restore();
        j.sheet(0, 0, 4);
        j.item(0, 0, 0, 1);
        j.film(0, 0, 0, 0);
        j.copy(0, 0, 0, 1, 1);
        j.drop(0);
        due.is("one is known", j.count(2), 1);
        due.is("undone", j.undo(), 0);
        due.is("no points", j.count(0), 0);
        due.is("sheets are not undone", j.drop(0), NULL);
        due.is("letters are not undone", j.type('1'), 2);
    }

    private static void undoneOneByOne() {
        ZoneJudge j = told(1, 0, 0, 2, 0, 0, 3, 0, 0);
        j.out(0);
        j.undo();
        isAt("in its place again", j, 0, 1, 0, 0);
        isAt("behind it", j, 1, 2, 0, 0);
        isAt("behind it", j, 2, 3, 0, 0);
        due.is("known", j.count(2), 3);
    }

    /** POINTS, TOLERANCE, THE DRAW are as ahead of it, whatever was told since. */
    private static void undoneDraw() {
        ZoneJudge j = new ZoneJudge();
        j.seed(50);
        j.add(1, 1, 1);
        j.seed(60);
        j.tolerance(20);
        j.seed(70);
        j.undo();
        due.is("as ahead of the tolerance", drawOf(j), 60);
        j.seed(80);
        j.undo();
        due.is("as ahead of the point", drawOf(j), 50);
        j.seed(90);
        due.is("nothing to undo", j.undo(), NONE);
        due.is("a seed stays", drawOf(j), 90);
    }

    /** Each turn may be UNDONE, one that changes nothing, too. */
    private static void undoneTurns() {
        for (int n : new int[] {1, 5, 6, 7, 40}) {
            ZoneJudge j = new ZoneJudge();
            j.drift(n);
            due.is("known of " + n, j.count(2), Math.min(n, 6));
            long draw = 1;
            for (int turn = 0; turn < n - Math.min(n, 6); turn++) draw = (draw * 1103515245L + 12345L) % 2147483648L;
            for (int left = Math.min(n, 6) - 1; left >= 0; left--) due.is("undone", j.undo(), left);
            due.is("drawn ahead of the six", drawOf(j), draw);
            due.is("no more", j.undo(), NONE);
        }
        ZoneJudge j = told(14, 0, 0);
        j.drift(1);
        due.is("it changed nothing", j.undo(), 1);
        isAt("the point is there still", j, 0, 14, 0, 0);
        due.is("not drawn", drawOf(j), 1);
    }

    private static void undoneAndDoneAgain() {
        ZoneJudge j = new ZoneJudge();
        for (int t = 20; t < 28; t++) j.tolerance(t);
        j.undo();
        j.undo();
        due.is("four are left", j.count(2), 4);
        due.is("told anew", j.tolerance(50), 25);
        due.is("five", j.count(2), 5);
        due.is("undone", j.undo(), 4);
        due.is("as ahead", j.count(1), 25);
        for (int left = 3; left >= 0; left--) due.is("undone", j.undo(), left);
        due.is("as far as known", j.count(1), 21);
    }

    /** NONE: there is no IMAGE. */
    private static void noImage() {
        ZoneJudge j = told(1, 2, 3);
        j.tolerance(30);
        due.is("none", j.restore(), NONE);
        isAt("stays", j, 0, 1, 2, 3);
        due.is("stays", j.count(1), 30);
        due.is("stays", j.count(2), 2);
        due.is("image", j.image(), 1);
        due.is("restored", j.restore(), 1);
    }

    private static void imageOfNothing() {
        ZoneJudge j = new ZoneJudge();
        due.is("image of a new one", j.image(), 1);
        j.add(1, 2, 3);
        j.tolerance(0);
        j.drift(2);
        due.is("restored", j.restore(), 1);
        due.is("no points", j.count(0), 0);
        due.is("tolerance", j.count(1), 10);
        due.is("nothing known", j.undo(), NONE);
        due.is("draw", drawOf(j), 1);
        due.is("the image is there still", j.restore(), 1);
    }

    private static void imageKeepsAll() {
        ZoneJudge j = told(1, 2, 3, 4, 5, 6);
        j.tolerance(33);
        j.seed(44);
        j.image();
        j.out(0);
        j.move(0, 0, 0);
        j.tolerance(34);
        j.seed(45);
        for (int again = 0; again < 3; again++) {
            due.is("restored", j.restore(), 1);
            due.is("points", j.count(0), 2);
            isAt("first", j, 0, 1, 2, 3);
            isAt("second", j, 1, 4, 5, 6);
            due.is("tolerance", j.count(1), 33);
            due.is("known", j.count(2), 3);
            due.is("draw", drawOf(j), 44);
            due.is("undone", j.undo(), 2);
            due.is("undone: tolerance", j.count(1), 10);
            due.is("undone: draw", drawOf(j), 1);
            due.is("undone", j.undo(), 1);
            due.is("undone: point", j.count(0), 1);
            j.add(9, 9, 9);
            j.drift(9);
        }
    }

    /** What may be UNDONE, too: all six, though others came since. */
    private static void imageKeepsSix() {
        ZoneJudge j = new ZoneJudge();
        for (int t = 20; t < 28; t++) j.tolerance(t);
        j.image();
        for (int t = 40; t < 53; t++) j.tolerance(t);
        j.restore();
        due.is("as it was", j.count(1), 27);
        due.is("six", j.count(2), 6);
        for (int left = 5; left >= 0; left--) {
            due.is("undone", j.undo(), left);
            due.is("tolerance", j.count(1), 21 + left);
        }
        due.is("no more", j.undo(), NONE);
        j.tolerance(60);
        j.restore();
        due.is("six again", j.count(2), 6);
        due.is("undone again", j.undo(), 5);
        due.is("undone again", j.count(1), 26);
    }

    /** All but SHEETS, THE TAPE. */
    private static void imageLeavesSheetsAndTape() {
        ZoneJudge j = told(1, 2, 3);
        typed(j, "4,5");
        filled(j, 0, 0, 2, 7, 8);
        j.sheet(1, 1, 3);
        j.image();
        typed(j, ",6");
        j.item(0, 0, 1, 9);
        j.drop(1);
        j.sheet(2, 2, 5);
        j.restore();
        holds(j, "items are as they became", 7, 9);
        due.is("dropped", j.drop(1), NULL);
        due.is("new", j.drop(2), 5);
        due.is("tape is as it became", j.read(), 1);
        isAt("told", j, 0, 4, 5, 6);
    }

    private static void latestImage() {
        ZoneJudge j = told(1, 2, 3);
        j.image();
        j.add(2, 2, 2);
        due.is("another image", j.image(), 1);
        j.out(0);
        j.out(0);
        j.restore();
        due.is("the latest one", j.count(0), 2);
        j.undo();
        due.is("undone", j.count(0), 1);
        j.image();
        j.restore();
        due.is("the latest one", j.count(0), 1);
        due.is("known then", j.count(2), 1);
    }
}
