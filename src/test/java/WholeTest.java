/** Promises 21 to 25: line, all, on, genus, both. */
public final class WholeTest {
    private static final int BAD = Due.BAD, NO = Due.NO, NONE = Due.NONE;
    private static final int MIDDLE = 505;

    public static void main(String[] args) {
        line();
        all();
        on();
        genus();
        both();
        Due.end();
    }

    private static void line() {
        BentBranches x = new BentBranches();
        // y y y - x x x x, and at 1, 1
        Due.curve(x, 0, 3, 1, 40, -1);
        Due.is("by 0", x.line(0, MIDDLE, 0), 4);
        Due.is("by -5", x.line(0, MIDDLE, -5), 3);
        Due.is("upright", x.line(0, MIDDLE, 6), 3);
        Due.is("at 1, 1 by 5", x.line(0, 606, 5), 1);
        Due.is("off it", x.line(0, 605, 5), 0);
        // (y - 2x)(x): it holds lines
        Due.curve(x, 0, 11, 1, 20, -2);
        Due.is("all on it", x.line(1, MIDDLE, 2), -1);
        Due.is("all on it, upright", x.line(1, MIDDLE, 6), -1);
        Due.is("all on it, elsewhere", x.line(1, 607, 2), -1);
        Due.is("not on it, elsewhere", x.line(1, 607, 1), 1);
        // y - x x at 1, 1: 2 is the slope there
        Due.curve(x, 0, 1, 1, 20, -1);
        Due.is("touches", x.line(2, 606, 2), 2);
        Due.is("off it, upright", x.line(2, 505 + 1, 6), 0);
        Due.curve(x, 0, 4, 1);
        Due.is("y4, upright", x.line(3, MIDDLE, 6), 4);
        Due.is("t 7", x.line(2, 606, 7), BAD);
        Due.is("t -6", x.line(2, 606, -6), BAD);
    }

    private static void all() {
        BentBranches x = new BentBranches();
        // x y: the two lines
        Due.curve(x, 0, 11, 1);
        Due.is("ON", x.all(0, 0), 21);
        Due.is("KNOTS", x.all(0, 1), 1);
        Due.is("SUM of TIMES", x.all(0, 2), 22);
        x.curve(0);
        Due.is("ON of none", x.all(1, 0), 121);
        Due.is("KNOTS of none", x.all(1, 1), 121);
        Due.is("SUM of none", x.all(1, 2), 17 * 121);
        Due.text(x, "mark 100*(x-y)+m");
        Due.is("SUM by a text, held", x.all(0, 2), 5 * 99 - 5 * 99 + 5 * 99 - 5 * 99 + 2);
        Due.text(x, "mark x*10+y+m*0");
        Due.is("ON stays", x.all(0, 0), 21);
        Due.text(x, "mark (x=0)*y+9");
        Due.is("SUM by a text", x.all(0, 2), 9 * 21);
        Due.text(x, "mark m*m");
        Due.is("SUM of m m", x.all(0, 2), 20 + 4);
        Due.is("what 3", x.all(0, 3), BAD);
        Due.is("what -1", x.all(0, -1), BAD);
        Due.is("curve 2", x.all(2, 0), BAD);
        Due.is("curve -1", x.all(-1, 0), BAD);
    }

    private static void on() {
        BentBranches x = new BentBranches();
        // x x + y y - 25
        Due.curve(x, 0, 20, 1, 2, 1, 0, -25);
        int[] due = {5, 102, 108, 201, 209, 500, 510, 801, 809, 902, 908, 1005};
        for (int i = 0; i < due.length; i++) {
            Due.is("on(0, " + i + ")", x.on(0, i), due[i]);
        }
        Due.is("beyond the last", x.on(0, due.length), NONE);
        Due.is("far beyond", x.on(0, Integer.MAX_VALUE), NONE);
        Due.is("i -1", x.on(0, -1), BAD);
        Due.is("curve 1", x.on(1, 0), BAD);
        x.curve(0);
        Due.is("the first of all", x.on(1, 0), 0);
        Due.is("the twelfth of all", x.on(1, 11), 100);
        Due.is("the last of all", x.on(1, 120), 1010);
    }

    private static void genus() {
        BentBranches x = new BentBranches();
        Due.curve(x, 0, 0, 3);
        Due.is("DEGREE 0", x.genus(0), 1);
        Due.curve(x, 0, 1, 1);
        Due.is("DEGREE 1", x.genus(1), 0);
        Due.curve(x, 0, 4, 1, 40, 1, 0, 1);
        Due.is("DEGREE 4, no knot", x.genus(2), 3);
        // x y (x - 1)(y - 1): four knots
        Due.curve(x, 0, 22, 1, 12, -1, 21, -1, 11, 1);
        Due.is("four knots", x.genus(3), -1);
        // y y - x x x x: one knot that stays one when it is blown
        Due.curve(x, 0, 2, 1, 40, -1);
        Due.is("BELONGS 2", x.genus(4), 1);
        Due.text(x, "slope 0");
        Due.is("nothing is followed", x.genus(4), 2);
        // (x + 5)(y + 5): its knot is the first place of all
        Due.curve(x, 0, 11, 1, 10, 5, 1, 5, 0, 25);
        Due.is("a knot at -5, -5", x.genus(5), -1);
        x.mix(5, 5, 5, 1);
        Due.is("DEGREE -1", x.genus(5), NO);
        Due.is("curve 6", x.genus(6), BAD);
        Due.is("curve -1", x.genus(-1), BAD);
    }

    private static void both() {
        BentBranches x = new BentBranches();
        Due.curve(x, 0, 11, 1);
        Due.curve(x, 0, 1, 1, 10, -1);
        Due.curve(x, 0, 0, 1);
        x.curve(0);
        Due.is("both(0, 1)", x.both(0, 1), 1);
        Due.is("both(1, 0)", x.both(1, 0), 1);
        Due.is("both(1, 1)", x.both(1, 1), 11);
        Due.is("both(0, 2)", x.both(0, 2), 0);
        Due.is("both(0, 3)", x.both(0, 3), 21);
        Due.is("both(3, 3)", x.both(3, 3), 121);
        Due.is("both(4, 0)", x.both(4, 0), BAD);
        Due.is("both(0, 4)", x.both(0, 4), BAD);
        Due.is("both(-1, 0)", x.both(-1, 0), BAD);
    }
}
