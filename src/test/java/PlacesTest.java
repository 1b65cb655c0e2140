/** Promises 11 to 20: value, times, shape, lowest, slopes, often, blown, tree, corner, power. */
public final class PlacesTest {
    private static final int BAD = Due.BAD, NO = Due.NO, NONE = Due.NONE;
    private static final int MIDDLE = 505;

    public static void main(String[] args) {
        value();
        times();
        shape();
        lowest();
        slopes();
        often();
        blown();
        tree();
        corner();
        power();
        refusals();
        Due.end();
    }

    private static void value() {
        BentBranches x = new BentBranches();
        Due.curve(x, 0, 0, 7, 11, 2, 4, -3, 40, 1);
        Due.is("value(0, 0, 0)", x.value(0, 0, 0), 7);
        Due.is("value(0, 2, 3)", x.value(0, 2, 3), 7 + 12 - 243 + 16);
        Due.is("value(0, -9, 9)", x.value(0, -9, 9), 7 - 162 - 3 * 6561 + 6561);
        Due.is("value(0, 9, -9)", x.value(0, 9, -9), 7 - 162 + 3 * 6561 + 6561 - 6 * 6561);
        x.turns(0, 1);
        Due.is("turned", x.value(0, 2, 3), 7 + 12 - 48 + 81);
        x.turns(0, 4);
        Due.is("doubled", x.value(0, 2, 3), 2 * (7 - 12 - 243 + 16));
        Due.is("value(0, 10, 0)", x.value(0, 10, 0), BAD);
        Due.is("value(0, -10, 0)", x.value(0, -10, 0), BAD);
        Due.is("value(0, 0, 10)", x.value(0, 0, 10), BAD);
        Due.is("value(0, 0, -10)", x.value(0, 0, -10), BAD);
        Due.is("value(1, 0, 0)", x.value(1, 0, 0), BAD);
        Due.is("value(-1, 0, 0)", x.value(-1, 0, 0), BAD);
    }

    private static void times() {
        BentBranches x = new BentBranches();
        // (y - 2)(y - 2) - (x + 1)^3, with its knot at -1, 2
        Due.curve(x, 0, 0, 3, 1, -4, 2, 1, 10, -3, 20, -3, 30, -1);
        Due.is("at the knot", x.times(0, 407), 2);
        Due.is("at 0, 3", x.times(0, 508), 1);
        Due.is("at 0, 1", x.times(0, 506), 1);
        Due.is("off it", x.times(0, 704), 0);
        Due.curve(x, 0, 13, 1);
        Due.is("x y y y", x.times(1, MIDDLE), 4);
        Due.is("x y y y on the x line", x.times(1, 805), 3);
        Due.is("x y y y on the y line", x.times(1, 509), 1);
        x.curve(0);
        Due.curve(x, 0, 4, 1);
        Due.is("y y y y", x.times(3, 205), 4);
        Due.is("none", x.times(2, 0), 17);
        Due.is("none at the far end", x.times(2, 1010), 17);
    }

    private static void shape() {
        BentBranches x = new BentBranches();
        Due.curve(x, 0, 22, 1, 40, -2, 0, 5);
        // at 2, -3: (x + 2)^2 (y - 3)^2 - 2 (x + 2)^4 + 5
        int place = 702;
        Due.is("1", x.shape(0, place, 0), 36 - 32 + 5);
        Due.is("y", x.shape(0, place, 1), -24);
        Due.is("yy", x.shape(0, place, 2), 4);
        Due.is("x", x.shape(0, place, 10), 36 - 64);
        Due.is("xy", x.shape(0, place, 11), -24);
        Due.is("xyy", x.shape(0, place, 12), 4);
        Due.is("xx", x.shape(0, place, 20), 9 - 48);
        Due.is("xxy", x.shape(0, place, 21), -6);
        Due.is("xxyy", x.shape(0, place, 22), 1);
        Due.is("xxx", x.shape(0, place, 30), -16);
        Due.is("xxxx", x.shape(0, place, 40), -2);
        Due.is("i and j above 4", x.shape(0, place, 44), 0);
        Due.is("i 16, j 4", x.shape(0, place, 164), 0);
        Due.is("i 17", x.shape(0, place, 170), BAD);
        Due.is("j 5", x.shape(0, place, 5), BAD);
        Due.is("j 5, i 16", x.shape(0, place, 165), BAD);
        Due.is("at -1", x.shape(0, place, -1), BAD);
        Due.is("at -10", x.shape(0, place, -10), BAD);
    }

    private static void lowest() {
        BentBranches x = new BentBranches();
        Due.curve(x, 0, 3, 5, 12, -6, 30, 7, 4, 9, 40, 8);
        int[] due = {7, 0, -6, 5, 0};
        for (int k = 0; k < 5; k++) {
            Due.is("LOWEST " + k, x.lowest(0, MIDDLE, k), due[k]);
        }
        Due.is("k 5", x.lowest(0, MIDDLE, 5), BAD);
        Due.is("k -1", x.lowest(0, MIDDLE, -1), BAD);
        Due.is("TIMES 0", x.lowest(0, 606, 0), NO);
        Due.is("TIMES 0, k 5: BAD stands first", x.lowest(0, 606, 5), BAD);
        x.curve(0);
        Due.is("TIMES 17", x.lowest(1, MIDDLE, 0), NO);
    }

    private static void slopes() {
        BentBranches x = new BentBranches();
        // (y - 5x)(y + 5x)(y - 2x) and y^4
        Due.curve(x, 0, 3, 1, 12, -2, 21, -25, 30, 50, 4, 1);
        Due.is("at -5, 2, 5", x.slopes(0, MIDDLE), 1 | 1 << 7 | 1 << 10);
        Due.is("TIMES 0", x.slopes(0, 0), NO);
        // y y - 36 x x: slopes of 6 are none
        Due.curve(x, 0, 2, 1, 20, -36);
        Due.is("beyond 5", x.slopes(1, MIDDLE), 0);
        // x x: all y is told by no t
        Due.curve(x, 0, 20, 1);
        Due.is("upright", x.slopes(2, MIDDLE), 0);
        x.curve(0);
        Due.is("TIMES 17", x.slopes(3, MIDDLE), NO);
        Due.text(x, "slope t+m>4");
        Due.is("m is TIMES", x.slopes(0, MIDDLE), 1 << 7 | 1 << 10);
        Due.text(x, "slope 0-t*t+4");
        Due.is("what is not 0 is followed", x.slopes(0, MIDDLE), 1 | 1 << 10);
        Due.text(x, "slope 0");
        Due.is("none may be followed", x.slopes(0, MIDDLE), 0);
    }

    private static void often() {
        BentBranches x = new BentBranches();
        // (y - x)^3 (y + 2x) = y4 - x y3 - 3 x2 y2 + 5 x3 y - 2 x4
        Due.curve(x, 0, 4, 1, 13, -1, 22, -3, 31, 5, 40, -2);
        Due.is("three times", x.often(0, MIDDLE, 1), 3);
        Due.is("once", x.often(0, MIDDLE, -2), 1);
        Due.is("not", x.often(0, MIDDLE, 0), 0);
        Due.text(x, "slope 0");
        Due.is("of slopes that are not followed, too", x.often(0, MIDDLE, 1), 3);
        // x y y: 0 is one twice, but of three
        Due.curve(x, 0, 12, 4);
        Due.is("twice", x.often(1, MIDDLE, 0), 2);
        Due.curve(x, 0, 20, 3);
        Due.is("LOWEST without t", x.often(2, MIDDLE, 0), 0);
        Due.curve(x, 0, 4, 2);
        Due.is("four times", x.often(3, MIDDLE, 0), 4);
        Due.is("t 6", x.often(0, MIDDLE, 6), BAD);
        Due.is("t -6", x.often(0, MIDDLE, -6), BAD);
        Due.is("TIMES 0", x.often(0, 706, 0), NO);
        x.curve(0);
        Due.is("TIMES 17", x.often(4, MIDDLE, 0), NO);
        Due.is("TIMES 17, t 6", x.often(4, MIDDLE, 6), BAD);
    }

    private static void blown() {
        BentBranches x = new BentBranches();
        // (y - x)^2 - x^4: at 1: y y - x x, then at 1 and -1 plain
        Due.curve(x, 0, 2, 1, 11, -2, 20, 1, 40, -1);
        Due.is("at 1", x.blown(0, MIDDLE, 1, 6), 2);
        Due.is("at 1, 1", x.blown(0, MIDDLE, 1, 1), 1);
        Due.is("at 1, -1", x.blown(0, MIDDLE, 1, -1), 1);
        Due.is("at 1, 0", x.blown(0, MIDDLE, 1, 0), 0);
        Due.is("at 0", x.blown(0, MIDDLE, 0, 6), 0);
        Due.is("at 0, 0", x.blown(0, MIDDLE, 0, 0), NO);
        Due.is("off it", x.blown(0, 606, 0, 6), NO);
        Due.is("t 6", x.blown(0, MIDDLE, 6, 6), BAD);
        Due.is("t -6", x.blown(0, MIDDLE, -6, 6), BAD);
        Due.is("u 7", x.blown(0, MIDDLE, 1, 7), BAD);
        Due.is("u -6", x.blown(0, MIDDLE, 1, -6), BAD);
        Due.is("BAD stands ahead of NO", x.blown(0, 0, 0, 7), BAD);
        x.curve(0);
        Due.is("TIMES 17", x.blown(1, MIDDLE, 0, 6), NO);
        // y y y - x x x x: at 0 becomes y y y - x, upright
        Due.curve(x, 0, 3, 1, 40, -1);
        Due.is("y3 - x4 at 0", x.blown(2, MIDDLE, 0, 6), 1);
        Due.is("y3 - x4 at 0, 0", x.blown(2, MIDDLE, 0, 0), 0);
        Due.curve(x, 0, 4, 1);
        Due.is("y4 at 0, 0", x.blown(3, MIDDLE, 0, 0), 4);
        Due.is("y4 at 5, 6", x.blown(3, MIDDLE, 5, 6), 0);
    }

    private static void tree() {
        BentBranches x = new BentBranches();
        Due.curve(x, 0, 2, 1, 40, -1);
        int[][] due = {{1, 1, 0}, {2, 2, 0}, {4, 2, 2}};
        for (int n = 1; n < 4; n++) {
            for (int what = 0; what < 3; what++) {
                Due.is("tree " + n + " deep, " + what, x.tree(0, MIDDLE, n, what), due[n - 1][what]);
            }
        }
        for (int what = 0; what < 3; what++) {
            Due.is("a plain place: only its own branch or none", x.tree(0, 0, 3, what), 0);
        }
        // y y + x x has no slope: one SHAPE, which ends at once
        Due.curve(x, 0, 2, 1, 20, 1);
        Due.is("no branch, ENDS 2 deep", x.tree(1, MIDDLE, 2, 2), 1);
        Due.is("no branch, ENDS 1 deep", x.tree(1, MIDDLE, 1, 2), 0);
        Due.is("no branch, SHAPES", x.tree(1, MIDDLE, 3, 0), 1);
        // a plain branch that is followed to the end
        Due.curve(x, 0, 1, 1, 20, -3);
        Due.is("plain, SHAPES", x.tree(2, MIDDLE, 3, 0), 3);
        Due.is("plain, BELONGS", x.tree(2, MIDDLE, 3, 1), 0);
        Due.is("plain, ENDS", x.tree(2, MIDDLE, 3, 2), 1);
        // (y - 5x)(y + 5x): the slopes at both ends are followed
        Due.curve(x, 0, 2, 1, 20, -25);
        Due.is("slopes of 5 and -5", x.tree(3, MIDDLE, 3, 2), 2);
        // the text sees TIMES of each SHAPE of TREE
        Due.text(x, "slope m>1");
        Due.is("only knots are followed", x.tree(0, MIDDLE, 3, 0), 4);
        Due.is("plain ones not", x.tree(2, MIDDLE, 3, 0), 1);
        Due.text(x, "slope t<1");
        Due.is("one of two", x.tree(0, MIDDLE, 3, 0), 3);
        x.curve(0);
        for (int what = 0; what < 3; what++) {
            Due.is("TIMES 17", x.tree(4, MIDDLE, 3, what), 0);
        }
        Due.is("n 0", x.tree(0, MIDDLE, 0, 0), BAD);
        Due.is("n 4", x.tree(0, MIDDLE, 4, 0), BAD);
        Due.is("what 3", x.tree(0, MIDDLE, 1, 3), BAD);
        Due.is("what -1", x.tree(0, MIDDLE, 1, -1), BAD);
    }

    private static void corner() {
        BentBranches x = new BentBranches();
        Due.curve(x, 0, 40, 1, 30, 2, 21, 1, 31, 5, 3, 1, 4, 1);
        int[] due = {3, 2, NONE, 0, 0};
        for (int j = 0; j < 5; j++) {
            Due.is("corner of j " + j, x.corner(0, MIDDLE, j), due[j]);
        }
        Due.is("j 5", x.corner(0, MIDDLE, 5), BAD);
        Due.is("j -1", x.corner(0, MIDDLE, -1), BAD);
    }

    private static void power() {
        BentBranches x = new BentBranches();
        // y4 - x2 y2 + x4 .. : (4 - 2) / 2 = 1 and (4 - 0) / 4 = 1: the greatest k gives the same
        Due.curve(x, 0, 4, 1, 22, -1, 40, 1);
        Due.is("above 1", x.power(0, MIDDLE, 0), 1);
        Due.is("below 1", x.power(0, MIDDLE, 1), 1);
        // x4, x y2, y4: 3/2 and 1
        Due.curve(x, 0, 4, 1, 12, 1, 40, 1);
        Due.is("above 3/2", x.power(1, MIDDLE, 0), 3);
        Due.is("below 3/2", x.power(1, MIDDLE, 1), 2);
        // 1 and x x x y: below 0
        Due.curve(x, 0, 0, 1, 31, 1);
        Due.is("above -3", x.power(2, MIDDLE, 0), -3);
        Due.is("below -3", x.power(2, MIDDLE, 1), 1);
        // y and y4: the least j is 1; 0 in least terms
        Due.curve(x, 0, 1, 1, 4, 1);
        Due.is("above 0", x.power(3, MIDDLE, 0), 0);
        Due.is("below 0", x.power(3, MIDDLE, 1), 1);
        // one j alone
        Due.curve(x, 0, 12, 1);
        Due.is("no second corner", x.power(4, MIDDLE, 0), NONE);
        Due.is("no second corner", x.power(4, MIDDLE, 1), NONE);
        x.curve(0);
        Due.is("no corner", x.power(5, MIDDLE, 1), NONE);
        Due.is("what 2", x.power(5, MIDDLE, 2), BAD);
        Due.is("what -1", x.power(5, MIDDLE, -1), BAD);
        // 1, x x y y: (0 - 2) / 2 in least terms
        x = new BentBranches();
        Due.curve(x, 0, 0, 1, 22, 1);
        Due.is("above -1", x.power(0, MIDDLE, 0), -1);
        Due.is("below -1", x.power(0, MIDDLE, 1), 1);
        // x4, x3 y, yy: 4/2 is more than 1
        powerIs(2, 1, 40, 30 + 1, 2);
        // x3 y, xx yy, y3: 3/2 is more than 1
        powerIs(3, 2, 31, 22, 3);
        // x3 y, x yy, y3: 2 is more than 3/2; so it is more than 3/3 of y4
        powerIs(2, 1, 31, 12, 3);
        powerIs(2, 1, 31, 12, 4);
        // x3 y, y3: 3/2, from a least j of 1
        powerIs(3, 2, 31, 3, 3);
    }

    private static void powerIs(int above, int below, int... numbers) {
        BentBranches x = new BentBranches();
        Due.curve(x, 0, numbers[0], 1, numbers[1], -1, numbers[2], 1);
        Due.is("above " + above, x.power(0, MIDDLE, 0), above);
        Due.is("below " + below, x.power(0, MIDDLE, 1), below);
    }

    private static void refusals() {
        BentBranches x = new BentBranches();
        Due.curve(x, 0, 2, 1);
        int[] places = {-1, 11, 111, 1011, 1100, 99, 10000, Integer.MIN_VALUE, Integer.MAX_VALUE};
        for (int place : places) {
            everyCallIsBad(x, 0, place);
        }
        for (int curve : new int[] {-1, 1, Integer.MIN_VALUE, Integer.MAX_VALUE}) {
            everyCallIsBad(x, curve, MIDDLE);
        }
    }

    private static void everyCallIsBad(BentBranches x, int curve, int place) {
        String of = " of " + curve + " at " + place;
        Due.is("times" + of, x.times(curve, place), BAD);
        Due.is("shape" + of, x.shape(curve, place, 0), BAD);
        Due.is("lowest" + of, x.lowest(curve, place, 0), BAD);
        Due.is("slopes" + of, x.slopes(curve, place), BAD);
        Due.is("often" + of, x.often(curve, place, 0), BAD);
        Due.is("blown" + of, x.blown(curve, place, 0, 6), BAD);
        Due.is("tree" + of, x.tree(curve, place, 1, 0), BAD);
        Due.is("corner" + of, x.corner(curve, place, 0), BAD);
        Due.is("power" + of, x.power(curve, place, 0), BAD);
        Due.is("line" + of, x.line(curve, place, 0), BAD);
    }
}
