/** Promises 31 to 38: sheet, mark, pour, copy, lay, ask, item, rest. */
public final class SheetsTest {
    private static final int BAD = Due.BAD, NO = Due.NO, NONE = Due.NONE;
    private static final int NOTHING = Due.NOTHING, KIND = Due.KIND, INDEX = Due.INDEX, SIZE = Due.SIZE;

    public static void main(String[] args) {
        sheet();
        mark();
        pour();
        copy();
        copyRefused();
        lay();
        ask();
        item();
        rest();
        Due.end();
    }

    /** A place of a sheet, looked at by a slot. */
    private static int place(BentBranches x, int sheet, int place) {
        x.lay(4, 2, sheet);
        return x.item(4, place);
    }

    private static void sheet() {
        BentBranches x = new BentBranches();
        Due.is("24 shorts", x.sheet(0, 0, 24), 24);
        Due.is("its last place", place(x, 0, 23), 0);
        Due.is("no place", place(x, 0, 24), INDEX);
        x.mark(0, 3, 5);
        Due.is("again: all 0", x.sheet(0, 0, 7), 7);
        Due.is("place 3", place(x, 0, 3), 0);
        Due.is("place 7", place(x, 0, 7), INDEX);
        Due.is("floats", x.sheet(3, 1, 1), 1);
        Due.is("none of floats", x.sheet(3, 1, 0), 0);
        Due.is("no place 0", x.mark(3, 0, 0), INDEX);
        Due.is("MISSING, n any", x.sheet(3, -1, 77), 0);
        Due.is("MISSING, n below 0", x.sheet(3, -1, -77), 0);
        Due.is("it is MISSING", x.mark(3, 0, 0), NOTHING);
        Due.is("sheet 4", x.sheet(4, 0, 1), BAD);
        Due.is("sheet -1", x.sheet(-1, -1, 1), BAD);
        Due.is("sort 2", x.sheet(0, 2, 1), BAD);
        Due.is("sort -2", x.sheet(0, -2, 1), BAD);
        Due.is("n 25", x.sheet(0, 1, 25), BAD);
        Due.is("n -1", x.sheet(0, 1, -1), SIZE);
        Due.is("n least", x.sheet(0, 0, Integer.MIN_VALUE), SIZE);
        Due.is("BAD stands ahead of SIZE", x.sheet(0, 2, -1), BAD);
        Due.is("place 6 is as it was", place(x, 0, 6), 0);
    }

    private static void mark() {
        BentBranches x = new BentBranches();
        x.sheet(0, 0, 3);
        x.sheet(1, 1, 3);
        int[] given = {32767, 32768, 65535, -32769, 65536, 70000, Integer.MIN_VALUE, Integer.MAX_VALUE};
        int[] due = {32767, -32768, -1, 32767, 0, 4464, 0, -1};
        for (int n = 0; n < given.length; n++) {
            Due.is("mark " + given[n], x.mark(0, 1, given[n]), 1);
            Due.is("a short of " + given[n], place(x, 0, 1), due[n]);
        }
        Due.is("NONE in shorts", x.mark(0, 1, NONE), KIND);
        Due.is("as it was", place(x, 0, 1), -1);
        Due.is("a float", x.mark(1, 2, 99999), 1);
        Due.is("it", place(x, 1, 2), 99999);
        Due.is("a float", x.mark(1, 2, -99999), 1);
        Due.is("100000", x.mark(1, 2, 100000), BAD);
        Due.is("-100000", x.mark(1, 2, -100000), BAD);
        Due.is("it", place(x, 1, 2), -99999);
        Due.is("NONE in floats", x.mark(1, 2, NONE), 1);
        Due.is("NO NUMBER", place(x, 1, 2), KIND);
        Due.is("a float again", x.mark(1, 2, 4), 1);
        Due.is("it", place(x, 1, 2), 4);
        Due.is("place 3", x.mark(1, 3, 0), INDEX);
        Due.is("place -1", x.mark(1, -1, 0), INDEX);
        Due.is("INDEX ahead of KIND", x.mark(0, 3, NONE), INDEX);
        Due.is("INDEX ahead of BAD of v", x.mark(1, 3, 100000), INDEX);
        Due.is("MISSING", x.mark(2, -1, 100000), NOTHING);
        Due.is("sheet 4", x.mark(4, 0, 0), BAD);
        Due.is("sheet -1", x.mark(-1, 0, 0), BAD);
    }

    private static void pour() {
        BentBranches x = new BentBranches();
        Due.curve(x, 3, 0, 1, 40, 5, 31, 6, 11, -1);
        x.sheet(0, 0, 24);
        x.mark(0, 0, 1);
        x.mark(0, 6, 30000);
        x.mark(0, 14, -100);
        x.mark(0, 15, 50);
        Due.is("changed: 11, 31, 40", x.pour(0, 0), 3);
        Due.is("c of 0", x.term(0, 0, 0), 1);
        Due.is("c of 11", x.term(0, 11, 0), 99);
        Due.is("c of 31", x.term(0, 31, 0), 0);
        Due.is("c of 40", x.term(0, 40, 0), -99);
        Due.is("none changes now", x.pour(0, 0), 0);
        Due.is("its kind stays", x.told(0, 0), 3);
        x.sheet(1, 1, 7);
        x.mark(1, 6, NONE);
        x.mark(1, 5, 98765);
        Due.is("changed: 0, 10", x.pour(1, 0), 2);
        Due.is("NO NUMBER: c stays", x.term(0, 11, 0), 99);
        Due.is("c of 10, held", x.term(0, 10, 0), 99);
        Due.is("beyond the row", x.term(0, 40, 0), -99);
        x.put(0, 12, 8);
        Due.is("none right beyond the row", x.pour(1, 0), 0);
        x.sheet(2, 1, 0);
        Due.is("an empty row", x.pour(2, 0), 0);
        Due.is("MISSING", x.pour(3, 0), NOTHING);
        Due.is("MISSING, but no such curve", x.pour(3, 1), BAD);
        Due.is("curve 1", x.pour(0, 1), BAD);
        Due.is("sheet 4", x.pour(4, 0), BAD);
        Due.is("sheet -1", x.pour(-1, 0), BAD);
    }

    private static void copy() {
        BentBranches x = new BentBranches();
        x.sheet(0, 1, 6);
        x.sheet(1, 1, 4);
        for (int n = 0; n < 6; n++) {
            x.mark(0, n, n == 4 ? NONE : 10 + n);
        }
        Due.is("to another one", x.copy(0, 2, 1, 1, 3), 3);
        int[] due = {0, 12, 13, KIND};
        for (int n = 0; n < 4; n++) {
            Due.is("place " + n, place(x, 1, n), due[n]);
        }
        Due.is("up, within itself", x.copy(0, 0, 0, 1, 4), 4);
        int[] up = {10, 10, 11, 12, 13, 15};
        for (int n = 0; n < 6; n++) {
            Due.is("up, place " + n, place(x, 0, n), up[n]);
        }
        Due.is("down, within itself", x.copy(0, 2, 0, 0, 4), 4);
        int[] down = {11, 12, 13, 15, 13, 15};
        for (int n = 0; n < 6; n++) {
            Due.is("down, place " + n, place(x, 0, n), down[n]);
        }
        Due.is("none, at the end", x.copy(0, 6, 1, 4, 0), 0);
        Due.is("all", x.copy(1, 0, 0, 2, 4), 4);
        Due.is("the last", place(x, 0, 5), KIND);
    }

    private static void copyRefused() {
        BentBranches x = new BentBranches();
        x.sheet(0, 0, 5);
        x.sheet(1, 0, 5);
        x.sheet(2, 1, 5);
        x.mark(0, 0, 7);
        int[][] beyond = {
            {-1, 0, 1}, {0, -1, 1}, {5, 0, 1}, {0, 5, 1}, {2, 0, 4}, {0, 2, 4}, {6, 0, 0}, {0, 6, 0}, {-1, 0, 0}, {0, 0, 6}, {0, 0, -1},
            {Integer.MAX_VALUE, 0, 2}, {0, Integer.MAX_VALUE, 2}, {1, 1, Integer.MAX_VALUE}, {0, 0, Integer.MIN_VALUE},
        };
        for (int[] run : beyond) {
            Due.is("copy of " + run[2], x.copy(0, run[0], 1, run[1], run[2]), INDEX);
        }
        Due.is("nothing came", place(x, 1, 0), 0);
        Due.is("not of one sort", x.copy(0, 0, 2, 0, 1), KIND);
        Due.is("KIND ahead of INDEX", x.copy(0, 9, 2, 0, 1), KIND);
        Due.is("from a MISSING one", x.copy(3, 0, 0, 0, 1), NOTHING);
        Due.is("to a MISSING one", x.copy(0, 9, 3, 0, 1), NOTHING);
        Due.is("from 4", x.copy(4, 0, 0, 0, 1), BAD);
        Due.is("to -1", x.copy(3, 0, -1, 0, 1), BAD);
    }

    private static void lay() {
        BentBranches x = new BentBranches();
        Due.curve(x, 0, 0, 1);
        x.sheet(1, 0, 2);
        Due.is("a number", x.lay(0, 3, Integer.MIN_VALUE), 0);
        Due.is("a curve", x.lay(0, 1, 0), 3);
        Due.is("a sheet", x.lay(0, 2, 1), 1);
        Due.is("a MISSING sheet", x.lay(0, 2, 0), NOTHING);
        Due.is("sheet 4", x.lay(0, 2, 4), BAD);
        Due.is("sheet -1", x.lay(0, 2, -1), BAD);
        Due.is("curve 1", x.lay(0, 1, 1), BAD);
        Due.is("curve -1", x.lay(0, 1, -1), BAD);
        Due.is("thing 4", x.lay(0, 4, 0), BAD);
        Due.is("thing -1", x.lay(0, -1, 0), BAD);
        Due.is("slot 5", x.lay(5, 0, 0), BAD);
        Due.is("slot -1", x.lay(-1, 0, 0), BAD);
        Due.is("what was held stays", x.item(0, 1), 0);
        Due.is("nothing, k any", x.lay(0, 0, 99), 2);
        Due.is("nothing again", x.lay(0, 0, -99), 0);
        // A sheet that is held is a row of its own, as it was then.
        x.lay(1, 2, 1);
        x.mark(1, 0, 8);
        Due.is("as it was then", x.item(1, 0), 0);
        x.sheet(1, -1, 0);
        Due.is("still there", x.item(1, 1), 0);
        Due.is("a slot by itself", x.item(2, 1), NOTHING);
    }

    private static void ask() {
        BentBranches x = new BentBranches();
        Due.curve(x, 3, 0, 4, 10, 6);
        x.lay(0, 1, 0);
        for (int kind = 0; kind < 6; kind++) {
            Due.is("taken for " + kind, x.ask(0, kind), kind == 0 || kind == 1 || kind == 3 ? -8 : KIND);
        }
        x.turns(0, 4);
        x.put(0, 0, 0);
        Due.is("as it was then", x.ask(0, 3), -8);
        x.lay(1, 1, 0);
        Due.is("a doubled one", x.ask(1, 2), 3);
        Due.is("no turned one", x.ask(1, 1), KIND);
        // for good: neither back nor a new curve changes it
        x.keep();
        x.back();
        Due.is("for good", x.ask(0, 0), -8);
        x.lay(2, 3, 5);
        Due.is("a number", x.ask(2, 0), KIND);
        x.sheet(0, 0, 1);
        x.lay(3, 2, 0);
        Due.is("a sheet", x.ask(3, 0), KIND);
        Due.is("nothing", x.ask(4, 0), NOTHING);
        Due.is("kind 6", x.ask(4, 6), BAD);
        Due.is("kind -1", x.ask(0, -1), BAD);
        Due.is("slot 5", x.ask(5, 0), BAD);
        Due.is("slot -1", x.ask(-1, 0), BAD);
    }

    private static void item() {
        BentBranches x = new BentBranches();
        Due.curve(x, 0, 0, 4);
        x.sheet(0, 1, 3);
        x.mark(0, 1, NONE);
        x.mark(0, 2, -12345);
        x.lay(0, 2, 0);
        Due.is("place 0", x.item(0, 0), 0);
        Due.is("NO NUMBER", x.item(0, 1), KIND);
        Due.is("place 2", x.item(0, 2), -12345);
        Due.is("place 3", x.item(0, 3), INDEX);
        Due.is("place -1", x.item(0, -1), INDEX);
        x.lay(1, 1, 0);
        Due.is("a curve", x.item(1, 0), KIND);
        Due.is("a curve, no place", x.item(1, -1), KIND);
        x.lay(2, 3, 0);
        Due.is("a number", x.item(2, 0), KIND);
        Due.is("nothing", x.item(3, -1), NOTHING);
        Due.is("slot 5", x.item(5, 0), BAD);
        Due.is("slot -1", x.item(-1, 0), BAD);
    }

    private static void rest() {
        BentBranches x = new BentBranches();
        Due.curve(x, 0, 0, 4);
        x.sheet(0, 1, 3);
        x.lay(0, 3, 17);
        x.lay(1, 3, Integer.MIN_VALUE);
        Due.is("17 by 5", x.rest(0, 5), 2);
        Due.is("17 by -5", x.rest(0, -5), 2);
        Due.is("the least by 10", x.rest(1, 10), -8);
        Due.is("the least by -1", x.rest(1, -1), 0);
        Due.is("by 0", x.rest(0, 0), NO);
        x.lay(2, 2, 0);
        Due.is("a sheet", x.rest(2, 0), KIND);
        x.lay(3, 1, 0);
        Due.is("a curve", x.rest(3, 0), KIND);
        Due.is("nothing", x.rest(4, 0), NOTHING);
        Due.is("slot 5", x.rest(5, 0), BAD);
        Due.is("slot -1", x.rest(-1, 0), BAD);
    }
}
