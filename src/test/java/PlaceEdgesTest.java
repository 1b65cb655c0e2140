/** The boundaries of promises 11 to 20, and of the sections A SHAPE and CORNERS, sentence by sentence. */
public final class PlaceEdgesTest {
    private static final int BAD = Due.BAD, NO = Due.NO, NONE = Due.NONE, LEAST = Integer.MIN_VALUE, MOST = Integer.MAX_VALUE;
    private static final int MIDDLE = 505;
    private static final int[] NUMBERS = {0, 1, 2, 3, 4, 10, 11, 12, 13, 20, 21, 22, 30, 31, 40};

    public static void main(String[] args) {
        valueTakesPlacesWithin9();
        valueAtTheFarEnds();
        placesOfAllCallsWithin5();
        placesOfTimes();
        curvesOfAllCalls();
        timesZeroToSeventeen();
        timesOfTheShapeNotOfTheCurve();
        shapeTakesSixteenAndFour();
        shapeAtTheFarEnds();
        lowestTakesZeroToFour();
        lowestAboveTimesIsZero();
        noOfTimesZeroAndSeventeen();
        slopesWithinFive();
        slopesThatMayBeFollowed();
        oftenZeroToFour();
        oftenTakesSlopesWithinFive();
        blownTakesSlopesWithinFive();
        blownNotAgain();
        blownRefused();
        treeOneToThreeDeep();
        treeOfTimesZeroAndSeventeen();
        belongs();
        ends();
        cornersZeroToFour();
        powerNeedsTwoCorners();
        powerInLeastTerms();
        powerIsTheGreatest();
        Due.end();
    }

    private static Run drawn(int... numbers) {
        return new Run().draws(0, 0, numbers);
    }

    // ---- promise 11, "-9 .. 9 each"

    private static void valueTakesPlacesWithin9() {
        Run run = Run.some().draws(2, 0, 10, 2, 1, 3, 0, 1);
        run.argument(1, "value", 2, 0, 1).least(-9, -14).most(9, 22).beyond(BAD);
        run.argument(2, "value", 2, 1, 0).least(-9, -24).most(9, 30).beyond(BAD);
        run.argument(0, "value", 2, 1, 1).least(0, 0).most(2, 6).beyond(BAD);
        run.refuses(BAD, "value", 2, 10, 10).refuses(BAD, "value", 2, -10, -10).refuses(BAD, "value", 3, 0, 0);
    }

    private static Run all(int kind, int v) {
        Run run = new Run().does(0, "curve", kind);
        for (int at : NUMBERS) {
            run.does(0, "put", 0, at, v);
        }
        return run;
    }

    private static void valueAtTheFarEnds() {
        all(0, 99).asks(3562317, "value", 0, 9, 9).asks(2981385, "value", 0, -9, -9).asks(99, "value", 0, 0, 0).asks(15 * 99, "value", 0, 1, 1);
        all(0, -99).asks(-3562317, "value", 0, 9, 9);
        all(4, 99).asks(198 * (1 + 81 + 6561), "value", 0, 9, 9).asks(2 * 3562317, "value", 0, -9, 9);
        drawn().asks(0, "value", 0, 9, 9).asks(0, "value", 0, -9, -9);
        drawn(40, 1).asks(6561, "value", 0, -9, 9).asks(6561, "value", 0, 9, -9);
        drawn(13, 1).asks(-6561, "value", 0, 9, -9).asks(-6561, "value", 0, -9, 9).asks(6561, "value", 0, -9, -9);
        drawn().tells(0, "term 9999").asks(3562317, "value", 0, 9, 9);
    }

    // ---- promise 12, "a place (100 times x and 5 together, and y and 5, 0 .. 10 each: so are places told to all acts but value())"

    /** A call that takes a place: what it answers at the first and the last of all, where y y - 25 is not the same. */
    private static void places(long first, long last, String name, int... given) {
        Run run = Run.some().draws(2, 0, 2, 1, 0, -25);
        run.argument(1, name, given).least(0, first).most(1010, last).beyond(BAD);
        int[] all = given.clone();
        for (int place : new int[] {11, 99, 111, 911, 999, 1011, 1100, 1110, 10000, -10, -90, -100}) {
            all[1] = place;
            run.refuses(BAD, name, all);
        }
        all[1] = 10;
        run.asks(last, name, all);
        all[1] = 1000;
        run.asks(first, name, all);
    }

    private static void placesOfAllCallsWithin5() {
        places(1, 1, "times", 2, 0);
        places(-10, 10, "shape", 2, 0, 1);
        places(-10, 10, "lowest", 2, 0, 1);
        places(32, 32, "slopes", 2, 0);
        places(1, 1, "often", 2, 0, 0);
        places(1, 1, "blown", 2, 0, 0, 6);
        places(1, 1, "tree", 2, 0, 1, 0);
        places(0, 0, "corner", 2, 0, 1);
        places(1, 1, "power", 2, 0, 1);
        places(-1, -1, "line", 2, 0, 0);
    }

    private static void placesOfTimes() {
        // (x + 5)(y + 5), (x - 5)(y - 5)
        Run run = drawn(11, 1, 10, 5, 1, 5, 0, 25).draws(1, 0, 11, 1, 10, -5, 1, -5, 0, 25);
        for (int place = -250; place < 1350; place++) {
            boolean is = place >= 0 && place / 100 <= 10 && place % 100 <= 10;
            int atLeast = (place / 100 == 0 ? 1 : 0) + (place % 100 == 0 ? 1 : 0);
            int atMost = (place / 100 == 10 ? 1 : 0) + (place % 100 == 10 ? 1 : 0);
            run.answers(is ? atLeast : BAD, "times", 0, place);
            run.answers(is ? atMost : BAD, "times", 1, place);
        }
    }

    private static void curvesOfAllCalls() {
        // three curves: y y - x x x x, one of six c, and none
        Run run = Run.some().draws(2, 0);
        run.argument(0, "times", 0, MIDDLE).least(0, 2).most(2, 17).beyond(BAD);
        run.argument(0, "shape", 0, MIDDLE, 2).least(0, 1).most(2, 0).beyond(BAD);
        run.argument(0, "lowest", 0, MIDDLE, 2).least(0, 1).most(2, NO).beyond(BAD);
        run.argument(0, "slopes", 0, MIDDLE).least(0, 32).most(2, NO).beyond(BAD);
        run.argument(0, "often", 0, MIDDLE, 0).least(0, 2).most(2, NO).beyond(BAD);
        run.argument(0, "blown", 0, MIDDLE, 0, 6).least(0, 2).most(2, NO).beyond(BAD);
        run.argument(0, "tree", 0, MIDDLE, 3, 0).least(0, 4).most(2, 0).beyond(BAD);
        run.argument(0, "corner", 0, MIDDLE, 2).least(0, 0).most(2, NONE).beyond(BAD);
        run.argument(0, "power", 0, MIDDLE, 0).least(0, 2).most(2, NONE).beyond(BAD);
    }

    // "TIMES of a SHAPE: the least i and j together with a number that is not 0; 17: there is none"
    private static void timesZeroToSeventeen() {
        drawn().asks(17, "times", 0, MIDDLE).asks(17, "times", 0, 0).asks(17, "times", 0, 1010);
        for (int at : NUMBERS) {
            drawn(at, -1).asks(at / 10 + at % 10, "times", 0, MIDDLE);
            if (at != 40 && at != 4) {
                drawn(at, 1, 40, 1, 4, 1).asks(at / 10 + at % 10, "times", 0, MIDDLE);
            }
        }
        drawn(0, 1).asks(0, "times", 0, MIDDLE).tells(0, "term 0").asks(17, "times", 0, MIDDLE);
        new Run().draws(0, 5, 4, 1).asks(17, "times", 0, MIDDLE).does(5, "turns", 0, 0).asks(4, "times", 0, MIDDLE);
    }

    // "a KNOT, if 2 or more": at a place, not at 0, 0
    private static void timesOfTheShapeNotOfTheCurve() {
        // (x - 1)(x - 1)(y - 1)(y - 1)
        Run run = drawn(22, 1, 21, -2, 20, 1, 12, -2, 11, 4, 10, -2, 2, 1, 1, -2, 0, 1);
        run.asks(4, "times", 0, 606).asks(2, "times", 0, 605).asks(2, "times", 0, 506).asks(0, "times", 0, MIDDLE);
    }

    // ---- promise 13, "i, j (10 times i, and j; 0 .. 16, 0 .. 4)"

    private static void shapeTakesSixteenAndFour() {
        Run run = drawn();
        for (int n = 0; n < NUMBERS.length; n++) {
            run.does(0, "put", 0, NUMBERS[n], n + 1);
        }
        for (int at = -45; at <= 220; at++) {
            long due = at < 0 || at / 10 > 16 || at % 10 > 4 ? BAD : 0;
            for (int n = 0; n < NUMBERS.length; n++) {
                due = NUMBERS[n] == at ? n + 1 : due;
            }
            run.answers(due, "shape", 0, MIDDLE, at);
        }
        for (int at : new int[] {-1, -10, 5, 9, 15, 45, 165, 169, 170, 174, 1000, LEAST, MOST}) {
            Run.some().refuses(BAD, "shape", 0, MIDDLE, at);
        }
        Run.some().asks(0, "shape", 0, MIDDLE, 164).asks(0, "shape", 0, MIDDLE, 160).asks(0, "shape", 0, MIDDLE, 44);
    }

    private static void shapeAtTheFarEnds() {
        // (x + 5)^4 and all c 99 at 5, 5 and at -5, -5
        drawn(40, 1).asks(625, "shape", 0, 1005, 0).asks(500, "shape", 0, 1005, 10).asks(150, "shape", 0, 1005, 20)
            .asks(20, "shape", 0, 1005, 30).asks(1, "shape", 0, 1005, 40).asks(-500, "shape", 0, 5, 10).asks(-20, "shape", 0, 5, 30);
        drawn(4, 1).asks(625, "shape", 0, 510, 0).asks(500, "shape", 0, 510, 1).asks(150, "shape", 0, 510, 2)
            .asks(20, "shape", 0, 510, 3).asks(1, "shape", 0, 510, 4).asks(-500, "shape", 0, 500, 1).asks(-20, "shape", 0, 500, 3);
        // 1 + 2 * 5 + 3 * 25 + 4 * 125 + 5 * 625, and with every second sign turned
        all(0, 99).asks(99 * 3711, "shape", 0, 1010, 0).asks(99, "shape", 0, 1010, 40).asks(99, "shape", 0, 1010, 4);
        all(0, -99).asks(-99 * 3711, "shape", 0, 1010, 0).asks(-99 * 2691, "shape", 0, 0, 0);
    }

    // ---- promise 14, "LOWEST k .. k 0 .. 4 (0, if k is above m)"

    private static void lowestTakesZeroToFour() {
        Run run = Run.some().draws(2, 0, 40, 5, 31, 4, 22, 3, 13, 2, 4, 1);
        run.argument(2, "lowest", 2, MIDDLE, 0).least(0, 5).most(4, 1).beyond(BAD);
        run.asks(4, "lowest", 2, MIDDLE, 1).asks(3, "lowest", 2, MIDDLE, 2).asks(2, "lowest", 2, MIDDLE, 3);
        // TIMES 0, and no such k: BAD stands first
        run.refuses(NO, "lowest", 0, 0, 4).refuses(BAD, "lowest", 0, 0, 5).refuses(BAD, "lowest", 0, 0, -1);
    }

    private static void lowestAboveTimesIsZero() {
        int[][] numbers = {{10, 7, 1, 8}, {20, 7, 11, 6, 2, 8}, {30, 7, 21, 6, 12, 5, 3, 8}};
        int[][] due = {{7, 8, 0, 0, 0}, {7, 6, 8, 0, 0}, {7, 6, 5, 8, 0}};
        for (int m = 1; m <= 3; m++) {
            Run run = drawn(numbers[m - 1]).does(0, "put", 0, 4, 9).does(0, "put", 0, 40, 9).does(0, "put", 0, 13, 9);
            for (int k = 0; k < 5; k++) {
                run.asks(due[m - 1][k], "lowest", 0, MIDDLE, k);
            }
        }
    }

    // ---- promises 14 to 16, "NO: TIMES are 0 or 17"

    private static void noOfTimesZeroAndSeventeen() {
        int[] least = {0, 1};
        for (int[] numbers : new int[][] {least, {}}) {
            Run run = Run.some().draws(2, 0, numbers);
            run.asks(numbers.length > 0 ? 0 : 17, "times", 2, MIDDLE);
            run.refuses(NO, "lowest", 2, MIDDLE, 0).refuses(NO, "slopes", 2, MIDDLE).refuses(NO, "often", 2, MIDDLE, 0);
            run.refuses(NO, "blown", 2, MIDDLE, 0, 6).refuses(NO, "blown", 2, MIDDLE, 0, 0);
            run.refuses(BAD, "lowest", 2, MIDDLE, 5).refuses(BAD, "often", 2, MIDDLE, 6).refuses(BAD, "often", 2, MIDDLE, -6);
            run.refuses(BAD, "blown", 2, MIDDLE, 6, 6).refuses(BAD, "blown", 2, MIDDLE, 0, 7);
            run.refuses(BAD, "lowest", 2, 1011, 0).refuses(BAD, "slopes", 2, -1).refuses(BAD, "often", 2, 11, 0);
        }
        // one more and one less: TIMES 1 and 4
        drawn(1, 1).asks(0, "lowest", 0, MIDDLE, 0).asks(32, "slopes", 0, MIDDLE).asks(1, "often", 0, MIDDLE, 0).asks(1, "blown", 0, MIDDLE, 0, 6);
        drawn(4, 1).asks(0, "lowest", 0, MIDDLE, 0).asks(32, "slopes", 0, MIDDLE).asks(4, "often", 0, MIDDLE, 0).asks(4, "blown", 0, MIDDLE, 0, 6);
    }

    // ---- promise 15, "SLOPES of it: t -5 .. 5 .. as bits (of t and 5)"

    private static void slopesWithinFive() {
        for (int t = -9; t <= 9; t++) {
            drawn(1, 1, 10, -t).asks(t < -5 || t > 5 ? 0 : 1 << t + 5, "slopes", 0, MIDDLE);
            drawn(1, -1, 10, t, 4, 1, 40, 3).asks(t < -5 || t > 5 ? 0 : 1 << t + 5, "slopes", 0, MIDDLE);
        }
        drawn(2, 1, 20, -25).asks(1 | 1 << 10, "slopes", 0, MIDDLE);
        drawn(2, 1, 20, -36).asks(0, "slopes", 0, MIDDLE);
        // x alone leaves by no t; x y by 0; 2 y - x by none that is whole
        drawn(10, 1).asks(0, "slopes", 0, MIDDLE);
        drawn(11, 1).asks(32, "slopes", 0, MIDDLE);
        drawn(1, 2, 10, -1).asks(0, "slopes", 0, MIDDLE);
        // four at once
        drawn(4, 1, 22, -5, 40, 4).asks(1 << 3 | 1 << 4 | 1 << 6 | 1 << 7, "slopes", 0, MIDDLE);
    }

    // "which may be followed: if slope gives what is not 0 (without a TEXT: yes)"
    private static void slopesThatMayBeFollowed() {
        int both = 1 << 4 | 1 << 6;
        slopesBy("0", 0);
        slopesBy("1", both);
        slopesBy("0-1", both);
        slopesBy("256*256*256*128", both);
        slopesBy("256*256*256*256", 0);
        slopesBy("t+1", 1 << 6);
        slopesBy("t-1", 1 << 4);
        slopesBy("m-2", 0);
        slopesBy("m-1", both);
        slopesBy("m-3", both);
        // another KEY changes nothing, and the one that was told last counts
        drawn(2, 1, 20, -1).tells(0, "mark 0").asks(both, "slopes", 0, MIDDLE).tells(1, "slope 0").asks(0, "slopes", 0, MIDDLE)
            .tells(2, "slope t").asks(both, "slopes", 0, MIDDLE);
    }

    private static void slopesBy(String text, int due) {
        drawn(2, 1, 20, -1).tells(0, "slope " + text).asks(due, "slopes", 0, MIDDLE);
    }

    // ---- promise 16

    private static void oftenZeroToFour() {
        // (y - x) so many times, by x or by nothing
        drawn(1, 1, 10, -2).asks(0, "often", 0, MIDDLE, 1).asks(1, "often", 0, MIDDLE, 2);
        drawn(1, 1, 10, -1).asks(1, "often", 0, MIDDLE, 1).asks(0, "often", 0, MIDDLE, 0);
        drawn(2, 1, 11, -2, 20, 1).asks(2, "often", 0, MIDDLE, 1).asks(0, "often", 0, MIDDLE, -1);
        drawn(3, 1, 12, -3, 21, 3, 30, -1).asks(3, "often", 0, MIDDLE, 1);
        drawn(4, 1, 13, -4, 22, 6, 31, -4, 40, 1).asks(4, "often", 0, MIDDLE, 1);
        drawn(13, 1, 22, -3, 31, 3, 40, -1).asks(3, "often", 0, MIDDLE, 1);
        drawn(40, 1).asks(0, "often", 0, MIDDLE, 0).asks(0, "often", 0, MIDDLE, 5);
        drawn(31, 1).asks(1, "often", 0, MIDDLE, 0);
        drawn(4, 7).asks(4, "often", 0, MIDDLE, 0).asks(0, "often", 0, MIDDLE, 1);
        // LOWEST alone counts: what is above it does not
        drawn(3, 1, 4, 1, 40, 9, 31, 8).asks(3, "often", 0, MIDDLE, 0);
    }

    private static void oftenTakesSlopesWithinFive() {
        Run run = Run.some().draws(2, 0, 2, 1, 11, -10, 20, 25).draws(3, 0, 2, 1, 11, 10, 20, 25);
        run.argument(2, "often", 2, MIDDLE, 0).least(-5, 0).most(5, 2).beyond(BAD);
        run.argument(2, "often", 3, MIDDLE, 0).least(-5, 2).most(5, 0).beyond(BAD);
    }

    // ---- promise 17

    private static void blownTakesSlopesWithinFive() {
        // y y - 25 x x x x: at 0 y y - 25 x x, and there at 5 and at -5 plain
        Run run = Run.some().draws(2, 0, 2, 1, 40, -25).draws(3, 0, 2, 1, 20, -25);
        run.argument(2, "blown", 3, MIDDLE, 0, 6).least(-5, 1).most(5, 1).beyond(BAD);
        run.asks(0, "blown", 3, MIDDLE, 4, 6).asks(0, "blown", 3, MIDDLE, -4, 6).asks(0, "blown", 3, MIDDLE, 0, 6);
        run.argument(3, "blown", 2, MIDDLE, 0, 0).least(-5, 1).most(6, 2).beyond(BAD);
        run.asks(1, "blown", 2, MIDDLE, 0, 5).asks(0, "blown", 2, MIDDLE, 0, 4).asks(0, "blown", 2, MIDDLE, 0, -4).asks(0, "blown", 2, MIDDLE, 0, 0);
        run.refuses(BAD, "blown", 2, MIDDLE, 6, 7).refuses(BAD, "blown", 2, MIDDLE, 6, 0);
        // BLOWN at a t that is no SLOPE, and that no text lets be followed
        run.tells(2, "slope 0").asks(2, "blown", 2, MIDDLE, 0, 6).asks(1, "blown", 2, MIDDLE, 0, 5).asks(0, "blown", 2, MIDDLE, 1, 6);
    }

    // "u 6: not again"
    private static void blownNotAgain() {
        drawn(4, 1).asks(4, "blown", 0, MIDDLE, 0, 6).asks(4, "blown", 0, MIDDLE, 0, 0).asks(0, "blown", 0, MIDDLE, 0, 5);
        drawn(3, 1, 40, -1).asks(1, "blown", 0, MIDDLE, 0, 6).asks(0, "blown", 0, MIDDLE, 0, 0);
        // x stays: x y y, all by x three times; x x by x twice is 1
        drawn(12, 1).asks(2, "blown", 0, MIDDLE, 0, 6).asks(0, "blown", 0, MIDDLE, 1, 6);
        drawn(20, 1).asks(0, "blown", 0, MIDDLE, 0, 6);
        // y - x x: 1 whatever is done along it
        drawn(1, 1, 20, -1).asks(1, "blown", 0, MIDDLE, 0, 6).asks(1, "blown", 0, MIDDLE, 0, 1).asks(0, "blown", 0, MIDDLE, 0, 0);
    }

    // "NO: TIMES of one that is to be BLOWN are 0 or 17"
    private static void blownRefused() {
        Run run = Run.some();
        run.asks(0, "blown", 0, MIDDLE, 1, 6).refuses(NO, "blown", 0, MIDDLE, 1, 0).refuses(NO, "blown", 0, MIDDLE, 1, 5).refuses(NO, "blown", 0, MIDDLE, 1, -5);
        run.refuses(BAD, "blown", 0, MIDDLE, 1, 7).refuses(BAD, "blown", 0, MIDDLE, 1, -6);
        run.refuses(NO, "blown", 0, 0, 0, 6).refuses(NO, "blown", 0, 0, 0, 0).refuses(BAD, "blown", 0, 0, 0, 7).refuses(BAD, "blown", 0, 0, 6, 0);
        // the second one plain: it is BLOWN again, and has TIMES 0 or 1 then
        run.asks(2, "blown", 0, MIDDLE, 0, 6).asks(1, "blown", 0, MIDDLE, 0, 1).asks(0, "blown", 0, MIDDLE, 0, 2);
    }

    // ---- promise 18, "TREE of a place, n deep (1 .. 3)"

    private static void treeOneToThreeDeep() {
        Run run = Run.some().tells(2, "slope 1").draws(2, 0, 2, 1, 40, -25).draws(3, 0, 2, 1, 20, -36);
        run.argument(2, "tree", 2, MIDDLE, 1, 0).least(1, 1).most(3, 4).beyond(BAD);
        run.argument(3, "tree", 2, MIDDLE, 3, 0).least(0, 4).most(2, 2).beyond(BAD);
        run.asks(2, "tree", 2, MIDDLE, 2, 0).asks(2, "tree", 2, MIDDLE, 3, 1).refuses(BAD, "tree", 2, MIDDLE, 4, 3);
        // BLOWN at slopes -5 .. 5 alone
        run.asks(1, "tree", 3, MIDDLE, 3, 0).asks(1, "tree", 3, MIDDLE, 3, 2).asks(0, "tree", 3, MIDDLE, 1, 2);
        drawn(1, 1, 10, -5).asks(3, "tree", 0, MIDDLE, 3, 0).asks(2, "tree", 0, MIDDLE, 2, 0);
        drawn(1, 1, 10, -6).asks(1, "tree", 0, MIDDLE, 3, 0).asks(1, "tree", 0, MIDDLE, 2, 0);
        drawn(1, 1, 10, 5).asks(3, "tree", 0, MIDDLE, 3, 0);
        drawn(1, 1, 10, 6).asks(1, "tree", 0, MIDDLE, 3, 0);
        // followed slopes alone, and by TIMES of each SHAPE of it
        drawn(2, 1, 40, -25).tells(0, "slope 0").asks(1, "tree", 0, MIDDLE, 3, 0).asks(1, "tree", 0, MIDDLE, 3, 2).asks(0, "tree", 0, MIDDLE, 1, 2)
            .tells(1, "slope t<5").asks(3, "tree", 0, MIDDLE, 3, 0).tells(2, "slope m=1").asks(1, "tree", 0, MIDDLE, 3, 0);
    }

    // "THE SHAPE there, if its TIMES are 1 .. 16"
    private static void treeOfTimesZeroAndSeventeen() {
        for (int n = 1; n <= 3; n++) {
            for (int what = 0; what < 3; what++) {
                drawn(0, 1).asks(0, "tree", 0, MIDDLE, n, what);
                drawn().asks(0, "tree", 0, MIDDLE, n, what);
            }
            drawn(1, 1).asks(n, "tree", 0, MIDDLE, n, 0).asks(0, "tree", 0, MIDDLE, n, 1).asks(1, "tree", 0, MIDDLE, n, 2);
        }
    }

    // "TIMES times (TIMES less 1) by 2, together"
    private static void belongs() {
        for (int m = 1; m <= 4; m++) {
            for (int n = 1; n <= 3; n++) {
                drawn(m, 1).asks(n * (m * (m - 1) / 2), "tree", 0, MIDDLE, n, 1);
            }
        }
        // four slopes: 6 of the knot, nothing of the plain ones
        drawn(4, 1, 22, -5, 40, 4).asks(6, "tree", 0, MIDDLE, 3, 1).asks(9, "tree", 0, MIDDLE, 3, 0).asks(4, "tree", 0, MIDDLE, 3, 2);
    }

    // "how many of TREE at depth n have TIMES 1, and how many at a lesser depth have none of TREE beneath them"
    private static void ends() {
        int[][] due = {{1, 1, 1}, {0, 0, 0}, {0, 0, 0}, {0, 0, 0}};
        for (int n = 1; n <= 3; n++) {
            for (int m = 1; m <= 4; m++) {
                drawn(m, 1).asks(due[m - 1][n - 1], "tree", 0, MIDDLE, n, 2);
            }
            // x and x x: by no slope
            drawn(10, 1).asks(1, "tree", 0, MIDDLE, n, 2);
            drawn(20, 1).asks(n == 1 ? 0 : 1, "tree", 0, MIDDLE, n, 2);
            // y y y - x x x x: one SHAPE beneath, x then, by no slope
            drawn(3, 1, 40, -1).asks(n == 1 ? 0 : 1, "tree", 0, MIDDLE, n, 2).asks(n == 1 ? 1 : 2, "tree", 0, MIDDLE, n, 0);
            // x y: one branch goes on, the upright one does not
            drawn(11, 1).asks(n == 1 ? 0 : 1, "tree", 0, MIDDLE, n, 2);
        }
    }

    // ---- promise 19, "for each j 0 .. 4 the least i with a number that is not 0 (17: none)"

    private static void cornersZeroToFour() {
        Run run = Run.some().draws(2, 0, 40, 1, 31, 1, 22, 1, 13, 1, 4, 1).draws(3, 0, 1, 1, 3, 1).draws(4, 0);
        run.argument(2, "corner", 2, MIDDLE, 0).least(0, 4).most(4, 0).beyond(BAD);
        run.asks(3, "corner", 2, MIDDLE, 1).asks(2, "corner", 2, MIDDLE, 2).asks(1, "corner", 2, MIDDLE, 3);
        int[] due = {NONE, 0, NONE, 0, NONE};
        for (int j = 0; j < 5; j++) {
            run.refuses(due[j], "corner", 3, MIDDLE, j).refuses(NONE, "corner", 4, MIDDLE, j);
        }
        run.refuses(BAD, "corner", 4, MIDDLE, 5).refuses(BAD, "corner", 4, MIDDLE, -1).refuses(BAD, "corner", 4, 1011, 0);
        // the least i of several
        drawn(10, 1, 20, 1, 40, 1, 11, 1, 31, 1).asks(1, "corner", 0, MIDDLE, 0).asks(1, "corner", 0, MIDDLE, 1);
    }

    // ---- promise 20

    private static void powers(int above, int below, int... numbers) {
        drawn(numbers).asks(above, "power", 0, MIDDLE, 0).asks(below, "power", 0, MIDDLE, 1);
    }

    private static void powerNeedsTwoCorners() {
        Run run = Run.some().draws(2, 0, 40, 1, 4, 1).draws(3, 0);
        run.argument(2, "power", 2, MIDDLE, 0).least(0, 1).most(1, 1).beyond(BAD);
        run.refuses(NONE, "power", 3, MIDDLE, 0).refuses(NONE, "power", 3, MIDDLE, 1).refuses(BAD, "power", 3, MIDDLE, 2).refuses(BAD, "power", 3, MIDDLE, -1);
        for (int j = 0; j < 5; j++) {
            powers(NONE, NONE, j, 1);
            powers(NONE, NONE, 40 - 9 * j, 1);
        }
        powers(0, 1, 0, 1, 1, 1);
        powers(0, 1, 0, 1, 4, 1);
        powers(0, 1, 3, 1, 4, 1);
        powers(1, 1, 13, 1, 4, 1);
    }

    // "in least terms (below it above 0)"
    private static void powerInLeastTerms() {
        powers(4, 1, 40, 1, 1, 1);
        powers(2, 1, 40, 1, 2, 1);
        powers(4, 3, 40, 1, 3, 1);
        powers(1, 1, 40, 1, 4, 1);
        powers(3, 4, 30, 1, 4, 1);
        powers(1, 2, 20, 1, 4, 1);
        powers(1, 4, 10, 1, 4, 1);
        powers(0, 1, 0, 1, 4, 1);
        powers(-3, 1, 0, 1, 31, 1);
        powers(-1, 1, 0, 1, 22, 1);
        powers(-1, 3, 0, 1, 13, 1);
        powers(-2, 1, 1, 1, 22, 1);
        powers(-1, 2, 1, 1, 13, 1);
    }

    // "of the least j with one, and a greater k, the greatest of these"
    private static void powerIsTheGreatest() {
        powers(3, 2, 40, 1, 31, 1, 12, 1);
        powers(1, 1, 40, 1, 31, 1, 22, 1);
        powers(2, 1, 40, 1, 21, 1, 12, 1);
        powers(2, 1, 40, 1, 21, 1, 2, 1);
        powers(-1, 2, 0, 1, 11, 1, 12, 1);
        powers(-1, 3, 0, 1, 21, 1, 13, 1);
        powers(0, 1, 0, 1, 11, 1, 4, 1);
        powers(3, 2, 31, 1, 22, 1, 3, 1);
        powers(2, 1, 31, 1, 12, 1, 3, 1);
        // of the least j: what two greater ones make does not count
        powers(1, 1, 20, 1, 11, 1, 3, 1);
        powers(2, 3, 30, 1, 31, 1, 13, -1);
    }
}
