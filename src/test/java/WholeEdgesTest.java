/** The boundaries of promises 21 to 25, and of LINES, GENUS and SUM, sentence by sentence. */
public final class WholeEdgesTest {
    private static final int BAD = Due.BAD, NO = Due.NO, NONE = Due.NONE, LEAST = Integer.MIN_VALUE, MOST = Integer.MAX_VALUE;
    private static final int MIDDLE = 505;

    public static void main(String[] args) {
        lineTakesSlopesAndSix();
        lineHoldsToNoneZeroAndFour();
        lineThroughPlacesAtTheEdge();
        allTellsWhatItTakes();
        onAndKnotsByTimes();
        placesWithinFiveAlone();
        sumIsHeldWithin99();
        sumTakesEachPlace();
        onFromZeroToTheLast();
        onByXThenByY();
        genusOfEachDegree();
        genusWithoutDegree();
        genusOfKnotsThreeDeep();
        genusOfKnotsAtTheEdge();
        both();
        Due.end();
    }

    private static Run drawn(int... numbers) {
        return new Run().draws(0, 0, numbers);
    }

    // ---- promise 21, "a slope t (-5 .. 5; or 6: x stays)"

    private static void lineTakesSlopesAndSix() {
        // y y - 25 x x: both lines by 5 are all on it
        Run run = Run.some().draws(2, 0, 2, 1, 20, -25);
        run.argument(2, "line", 2, MIDDLE, 0).least(-5, -1).most(6, 2).beyond(BAD);
        run.asks(-1, "line", 2, MIDDLE, 5).asks(2, "line", 2, MIDDLE, 4).asks(2, "line", 2, MIDDLE, -4).asks(2, "line", 2, MIDDLE, 0);
        run.argument(0, "line", 0, MIDDLE, 0).least(0, 4).most(2, 2).beyond(BAD);
        run.argument(1, "line", 2, MIDDLE, 0).least(0, 0).most(1010, 0).beyond(BAD);
        run.refuses(BAD, "line", 2, 11, 0).refuses(BAD, "line", 2, 1100, 0).refuses(BAD, "line", 3, MIDDLE, 7);
    }

    // "the least power of x that is not 0 (-1: none: the LINE is all on it)"
    private static void lineHoldsToNoneZeroAndFour() {
        drawn(0, 1).asks(0, "line", 0, MIDDLE, 0).asks(0, "line", 0, MIDDLE, 6);
        drawn().asks(-1, "line", 0, MIDDLE, 0).asks(-1, "line", 0, MIDDLE, 6).asks(-1, "line", 0, 0, -5);
        drawn(1, 1, 40, 1).asks(4, "line", 0, MIDDLE, 0).asks(1, "line", 0, MIDDLE, 1).asks(1, "line", 0, MIDDLE, 6);
        drawn(10, 1, 4, 1).asks(4, "line", 0, MIDDLE, 6).asks(1, "line", 0, MIDDLE, 0).asks(1, "line", 0, MIDDLE, -5);
        drawn(10, 1).asks(-1, "line", 0, MIDDLE, 6).asks(1, "line", 0, MIDDLE, 5);
        drawn(1, 1).asks(-1, "line", 0, MIDDLE, 0).asks(1, "line", 0, MIDDLE, 6);
        // y y - x x x: one more than elsewhere by 0
        drawn(2, 1, 30, -1).asks(3, "line", 0, MIDDLE, 0).asks(2, "line", 0, MIDDLE, 1).asks(2, "line", 0, MIDDLE, 6);
        // what is of one power of x goes out: y y - x y, by 1, with x x x
        drawn(2, 1, 11, -1, 30, 1).asks(3, "line", 0, MIDDLE, 1).asks(2, "line", 0, MIDDLE, 2);
        // no SLOPE that may be followed is asked for
        drawn(2, 1, 20, -1).tells(0, "slope 0").asks(-1, "line", 0, MIDDLE, 1);
    }

    private static void lineThroughPlacesAtTheEdge() {
        // y y - 25 at -5, -5 and at 5, 5; x - 5 at 5, 5
        drawn(2, 1, 0, -25).asks(-1, "line", 0, 0, 0).asks(1, "line", 0, 0, 6).asks(-1, "line", 0, 1010, 0).asks(0, "line", 0, 9, 0);
        drawn(10, 1, 0, -5).asks(-1, "line", 0, 1010, 6).asks(1, "line", 0, 1010, 0).asks(0, "line", 0, 910, 6);
    }

    // ---- promise 22

    private static void allTellsWhatItTakes() {
        Run run = Run.some();
        run.argument(1, "all", 0, 0).least(0, 9).most(2, 8 + 4).beyond(BAD);
        run.asks(1, "all", 0, 1);
        run.argument(0, "all", 0, 0).least(0, 9).most(1, 1).beyond(BAD);
        run.refuses(BAD, "all", 2, 3);
    }

    // "ON a CURVE, if TIMES .. is 1 or more; a KNOT, if 2 or more"
    private static void onAndKnotsByTimes() {
        drawn(0, 1).asks(0, "all", 0, 0).asks(0, "all", 0, 1).asks(0, "all", 0, 2);
        drawn(1, 1).asks(11, "all", 0, 0).asks(0, "all", 0, 1).asks(11, "all", 0, 2);
        drawn(2, 1).asks(11, "all", 0, 0).asks(11, "all", 0, 1).asks(22, "all", 0, 2);
        drawn(4, 1).asks(11, "all", 0, 0).asks(11, "all", 0, 1).asks(44, "all", 0, 2);
        drawn().asks(121, "all", 0, 0).asks(121, "all", 0, 1).asks(17 * 121, "all", 0, 2);
    }

    // "of all places x, y -5 .. 5"
    private static void placesWithinFiveAlone() {
        drawn(10, 1, 0, 5).asks(11, "all", 0, 0).asks(0, "on", 0, 0).asks(10, "on", 0, 10);
        drawn(10, 1, 0, -5).asks(11, "all", 0, 0).asks(1000, "on", 0, 0);
        drawn(1, 1, 0, 5).asks(11, "all", 0, 0).asks(0, "on", 0, 0).asks(1000, "on", 0, 10);
        drawn(1, 1, 0, -5).asks(11, "all", 0, 0).asks(10, "on", 0, 0);
        for (int at : new int[] {10, 1}) {
            drawn(at, 1, 0, 6).asks(0, "all", 0, 0).asks(NONE, "on", 0, 0);
            drawn(at, 1, 0, -6).asks(0, "all", 0, 0).asks(NONE, "on", 0, 0);
        }
    }

    // "SUM .. what mark gives, held within -99 .. 99 (without a TEXT: TIMES), together"
    private static void sumIsHeldWithin99() {
        int[] due = {98, 99, 99, -98, -99, -99, 99, -99, 0};
        String[] text = {"98", "99", "100", "0-98", "0-99", "0-100", "9999*9999", "256*256*256*128", "256*256*256*256"};
        for (int n = 0; n < text.length; n++) {
            drawn(1, 1).tells(0, "mark " + text[n]).asks(11 * due[n], "all", 0, 2).asks(11, "all", 0, 0);
            drawn().tells(0, "mark " + text[n]).asks(121 * due[n], "all", 0, 2);
            drawn(0, 1).tells(0, "mark " + text[n]).asks(0, "all", 0, 2);
        }
        // each is held by itself: 101 alone is one too many, by two; -99 is none
        drawn(1, 1).tells(0, "mark 20*x+1").asks(11 - 2, "all", 0, 2).tells(1, "mark 20*x-1").asks(-11 + 2, "all", 0, 2);
    }

    private static void sumTakesEachPlace() {
        // x - 5 and y + 5: x, y are those of the place
        drawn(10, 1, 0, -5).tells(0, "mark x").asks(55, "all", 0, 2).tells(1, "mark y*y").asks(110, "all", 0, 2).tells(2, "mark m").asks(11, "all", 0, 2);
        drawn(1, 1, 0, 5).tells(0, "mark y").asks(-55, "all", 0, 2).tells(1, "mark x*x").asks(110, "all", 0, 2);
        drawn().tells(0, "mark m").asks(17 * 121, "all", 0, 2).tells(1, "term 0").asks(17 * 121, "all", 0, 2);
    }

    // ---- promise 23, "BAD: curve, i below 0; NONE"

    private static void onFromZeroToTheLast() {
        Run run = Run.some().draws(2, 0).draws(3, 0, 0, 1);
        run.argument(1, "on", 2, 0).least(0, 0).most(120, 1010).above(NONE);
        run.refuses(BAD, "on", 2, -1).refuses(BAD, "on", 2, LEAST);
        run.argument(1, "on", 0, 0).least(0, 301).most(8, 709).above(NONE);
        run.refuses(NONE, "on", 3, 0).refuses(BAD, "on", 3, -1).refuses(NONE, "on", 3, MOST);
        run.argument(0, "on", 0, 0).least(0, 301).most(3, NONE).beyond(BAD);
        run.refuses(BAD, "on", 4, -1);
    }

    // "x from -5 on, for each y from -5 on"
    private static void onByXThenByY() {
        Run run = drawn();
        for (int i = 0; i <= 120; i++) {
            run.answers(i / 11 * 100 + i % 11, "on", 0, i);
        }
        // x y: those of x below 0, the upright line, those of x above 0
        Run two = drawn(11, 1);
        int[] due = {5, 105, 205, 305, 405, 500, 501, 502, 503, 504, 505, 506, 507, 508, 509, 510, 605, 705, 805, 905, 1005, NONE};
        for (int i = 0; i < due.length; i++) {
            two.asks(due[i], "on", 0, i);
        }
    }

    // ---- promise 24, "(DEGREE less 1) times (DEGREE less 2) by 2"

    private static void genusOfEachDegree() {
        int[] due = {1, 0, 0, 1, 3};
        for (int degree = 0; degree <= 4; degree++) {
            // no place is ON it: 1 and twice all else that has the DEGREE
            Run run = drawn(0, 1);
            if (degree > 0) {
                run.does(0, "put", 0, degree, 2);
            }
            run.asks(due[degree], "genus", 0);
        }
        // plain places are no KNOTS
        drawn(1, 1).asks(0, "genus", 0);
        drawn(1, 1, 40, -1).asks(3, "genus", 0);
        Run.some().argument(0, "genus", 0).least(0, 1).most(1, 0).beyond(BAD);
    }

    // "NO: DEGREE is -1"
    private static void genusWithoutDegree() {
        drawn().refuses(NO, "genus", 0).tells(0, "term i+j=0").asks(1, "genus", 0).tells(1, "term 0").refuses(NO, "genus", 0);
        drawn(0, 1).asks(1, "genus", 0).does(1, "put", 0, 0, 0).refuses(NO, "genus", 0);
        Run run = new Run().draws(0, 5, 4, 1);
        run.refuses(NO, "genus", 0).refuses(BAD, "genus", 1).refuses(BAD, "genus", -1);
        run.does(5, "turns", 0, 0).asks(3 - 11 * 18, "genus", 0);
    }

    // "less BELONGS (3 deep) of all places .. that are KNOTS"
    private static void genusOfKnotsThreeDeep() {
        // y y - x x x; y y - x x x x; y y, with a knot at each of eleven places that stays one
        drawn(2, 1, 30, -1).asks(0, "genus", 0);
        drawn(2, 1, 40, -1).asks(1, "genus", 0);
        drawn(2, 1).asks(-33, "genus", 0).tells(0, "slope 0").asks(-11, "genus", 0).tells(1, "slope m").asks(-33, "genus", 0);
        // 3 - 6: four slopes of one knot; 1 - 3: three of one
        drawn(4, 1, 22, -5, 40, 4).asks(-3, "genus", 0);
        drawn(3, 1, 21, -1).asks(-2, "genus", 0);
    }

    private static void genusOfKnotsAtTheEdge() {
        // (x - a)(y - b) with a knot at a, b
        for (int a : new int[] {-6, -5, 5, 6}) {
            for (int b : new int[] {-6, -5, 5, 6}) {
                boolean inside = Math.abs(a) < 6 && Math.abs(b) < 6;
                drawn(11, 1, 10, -b, 1, -a, 0, a * b).asks(inside ? -1 : 0, "genus", 0).asks(inside ? 1 : 0, "all", 0, 1);
            }
        }
    }

    // ---- promise 25

    private static void both() {
        // x y; y - x; a number; none
        Run run = Run.some().draws(2, 0, 11, 1).draws(3, 0, 1, 1, 10, -1).draws(4, 0, 0, 1).draws(5, 0);
        run.asks(21, "both", 2, 2).asks(1, "both", 2, 3).asks(1, "both", 3, 2).asks(11, "both", 3, 5).asks(0, "both", 3, 4).asks(121, "both", 5, 5);
        run.argument(0, "both", 0, 5).least(0, 9).most(5, 121).beyond(BAD);
        run.argument(1, "both", 5, 0).least(0, 9).most(5, 121).beyond(BAD);
        // once on the one and twice on the other is ON both; the edges count
        drawn(1, 1, 0, 5).draws(1, 0, 10, 1, 0, 5).asks(1, "both", 0, 1);
        drawn(1, 1, 0, -5).draws(1, 0, 10, 1, 0, -5).asks(1, "both", 0, 1);
        drawn(1, 1, 0, -6).draws(1, 0, 10, 1, 0, -5).asks(0, "both", 0, 1);
        drawn(2, 1).draws(1, 0, 10, 1).asks(1, "both", 0, 1).asks(1, "both", 1, 0);
        // what one KIND makes of it counts, each by itself
        new Run().draws(0, 1, 1, 1).draws(1, 0, 10, 1).asks(11, "both", 0, 1);
    }
}
