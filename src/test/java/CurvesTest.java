/** Promises 1 to 10: a new object; curve, put, term, told, as, turns, mix, deal, seed. */
public final class CurvesTest {
    private static final int BAD = Due.BAD, FULL = Due.FULL, KIND = Due.KIND, NONE = Due.NONE, NOTHING = Due.NOTHING, NO = Due.NO;
    private static final int[] PLACES = {0, 1, 2, 3, 4, 10, 11, 12, 13, 20, 21, 22, 30, 31, 40};

    public static void main(String[] args) {
        aNewObject();
        curve();
        put();
        term();
        termsOfKinds();
        told();
        as();
        turns();
        mix();
        deal();
        seed();
        Due.end();
    }

    private static void aNewObject() {
        BentBranches x = new BentBranches();
        for (int what = 0; what < 4; what++) {
            Due.is("count of a new object, " + what, x.count(what), 0);
        }
        Due.is("z of a new object", x.count(4), 1);
        Due.is("told(0, 0) of none", x.told(0, 0), BAD);
        Due.is("back of none", x.back(), NO);
        for (int key = 0; key < 3; key++) {
            Due.is("why of none, " + key, x.why(key), NONE);
        }
        for (int sheet = 0; sheet < 4; sheet++) {
            Due.is("a missing sheet " + sheet, x.mark(sheet, 0, 0), NOTHING);
        }
        for (int slot = 0; slot < 5; slot++) {
            Due.is("an empty slot " + slot, x.rest(slot, 1), NOTHING);
        }
    }

    private static void curve() {
        BentBranches x = new BentBranches();
        Due.is("curve(-1)", x.curve(-1), BAD);
        Due.is("curve(6)", x.curve(6), BAD);
        Due.is("count(0) after refusals", x.count(0), 0);
        for (int kind = 0; kind < 6; kind++) {
            Due.is("curve " + kind, x.curve(kind), kind);
            Due.is("its kind", x.told(kind, 0), kind);
            for (int at : PLACES) {
                Due.is("its c at " + at, x.term(kind, at, 0), 0);
            }
        }
        Due.is("a seventh curve", x.curve(0), FULL);
        Due.is("BAD stands ahead of FULL", x.curve(6), BAD);
        Due.is("count(0)", x.count(0), 6);
        // A curve whose room held another one before begins with zeros.
        BentBranches y = new BentBranches();
        y.keep();
        Due.curve(y, 3, 11, 5);
        y.back();
        Due.is("curve after back", y.curve(2), 0);
        Due.is("its c", y.term(0, 11, 0), 0);
        Due.is("its kind", y.told(0, 0), 2);
    }

    private static void put() {
        BentBranches x = new BentBranches();
        x.curve(0);
        x.curve(4);
        for (int n = 0; n < PLACES.length; n++) {
            Due.is("put at " + PLACES[n], x.put(0, PLACES[n], n + 1), 0);
        }
        for (int n = 0; n < PLACES.length; n++) {
            Due.is("put again at " + PLACES[n], x.put(0, PLACES[n], -99), n + 1);
            Due.is("c of another curve", x.term(1, PLACES[n], 0), 0);
        }
        Due.is("put 99", x.put(0, 40, 99), -99);
        for (int at : new int[] {5, 14, 23, 32, 41, 50, 9, 19, 100, -1, -10, Integer.MIN_VALUE, Integer.MAX_VALUE}) {
            Due.is("put at " + at, x.put(0, at, 1), BAD);
        }
        for (int v : new int[] {100, -100, Integer.MIN_VALUE, Integer.MAX_VALUE}) {
            Due.is("put of " + v, x.put(0, 40, v), BAD);
        }
        Due.is("put of curve 2", x.put(2, 0, 1), BAD);
        Due.is("put of curve -1", x.put(-1, 0, 1), BAD);
        Due.is("c is as it was", x.term(0, 40, 0), 99);
    }

    private static void term() {
        BentBranches x = new BentBranches();
        Due.curve(x, 0, 0, 7, 12, -8, 40, 99);
        Due.is("term(0, 0, 0)", x.term(0, 0, 0), 7);
        Due.is("term(0, 12, 1)", x.term(0, 12, 1), -8);
        Due.is("term(0, 21, 1)", x.term(0, 21, 1), 0);
        Due.is("term(0, 40, 1)", x.term(0, 40, 1), 99);
        Due.is("term(0, 0, 2)", x.term(0, 0, 2), BAD);
        Due.is("term(0, 0, -1)", x.term(0, 0, -1), BAD);
        Due.is("term(0, 5, 0)", x.term(0, 5, 0), BAD);
        Due.is("term(0, 14, 1)", x.term(0, 14, 1), BAD);
        Due.is("term(0, -1, 1)", x.term(0, -1, 1), BAD);
        Due.is("term(1, 0, 1)", x.term(1, 0, 1), BAD);
        Due.is("term(-1, 0, 1)", x.term(-1, 0, 1), BAD);
    }

    private static void termsOfKinds() {
        BentBranches x = new BentBranches();
        Due.curve(x, 0, 0, 5, 1, 2, 10, 3, 12, 70, 31, -60, 30, 11);
        long[][] due = {
            // at 0, 1, 10, 12, 21, 13, 31, 30, 3
            {5, 2, 3, 70, 0, 0, -60, 11, 0},
            {5, 3, 2, 0, 70, -60, 0, 0, 11},
            {5, 2, -3, -70, 0, 0, 60, -11, 0},
            {-5, -3, -2, 0, -70, 60, 0, 0, -11},
            {10, 4, -6, -140, 0, 0, 120, -22, 0},
            {5, 0, 3, 0, 0, 0, 0, 11, 0},
        };
        int[] at = {0, 1, 10, 12, 21, 13, 31, 30, 3};
        for (int kind = 0; kind < 6; kind++) {
            x.turns(0, kind);
            for (int n = 0; n < at.length; n++) {
                Due.is("TERM of kind " + kind + " at " + at[n], x.term(0, at[n], 1), due[kind][n]);
            }
            Due.is("c of kind " + kind, x.term(0, 12, 0), 70);
        }
        // A text gives TERMS of a plain curve; the KIND works on them.
        Due.text(x, "term 30*i+j+c");
        x.turns(0, 0);
        Due.is("text, plain, held", x.term(0, 40, 1), 99);
        Due.is("text, plain", x.term(0, 12, 1), 99);
        Due.is("text, plain, below", x.term(0, 31, 1), 31);
        Due.is("text, c stays", x.term(0, 31, 0), -60);
        x.turns(0, 1);
        Due.is("text, turned", x.term(0, 13, 1), 31);
        Due.is("text, turned, as of j, i", x.term(0, 4, 1), 99);
        x.turns(0, 3);
        Due.is("text, opposite", x.term(0, 13, 1), -31);
        x.turns(0, 2);
        Due.is("text, mirrored", x.term(0, 31, 1), -31);
        x.turns(0, 4);
        Due.is("text, doubled", x.term(0, 40, 1), 198);
        x.turns(0, 5);
        Due.is("text, flat", x.term(0, 20, 1), 60);
        Due.is("text, flat, j not 0", x.term(0, 21, 1), 0);
        Due.text(x, "term 0-200");
        x.turns(0, 0);
        Due.is("text, held from below", x.term(0, 0, 1), -99);
    }

    private static void told() {
        BentBranches x = new BentBranches();
        Due.curve(x, 0, 0, -4, 10, 6, 3, 1, 11, 2);
        int[] worth = {4, 10, 8, -10, 9, -4};
        int[] degree = {3, 3, 3, 3, 3, 1};
        int[] terms = {4, 4, 4, 4, 4, 2};
        for (int kind = 0; kind < 6; kind++) {
            x.turns(0, kind);
            Due.is("KIND", x.told(0, 0), kind);
            Due.is("DEGREE of kind " + kind, x.told(0, 1), degree[kind]);
            Due.is("WORTH of kind " + kind, x.told(0, 2), worth[kind]);
            Due.is("TERMS of kind " + kind, x.told(0, 3), terms[kind]);
        }
        x.turns(0, 0);
        Due.text(x, "term (i=4)*2");
        Due.is("DEGREE by a text", x.told(0, 1), 4);
        Due.is("TERMS by a text", x.told(0, 3), 1);
        Due.is("WORTH counts c", x.told(0, 2), 4);
        Due.text(x, "term 0");
        Due.is("DEGREE of none", x.told(0, 1), -1);
        Due.is("TERMS of none", x.told(0, 3), 0);
        Due.is("told(0, 4)", x.told(0, 4), BAD);
        Due.is("told(0, -1)", x.told(0, -1), BAD);
        Due.is("told(1, 0)", x.told(1, 0), BAD);
        Due.is("told(-1, 0)", x.told(-1, 0), BAD);
    }

    private static void as() {
        BentBranches x = new BentBranches();
        Due.curve(x, 0, 0, 42, 1, 9);
        boolean[][] under = {
            {true, false, false, false, false, false},
            {true, true, false, false, false, false},
            {true, false, true, false, false, false},
            {true, true, false, true, false, false},
            {true, false, true, false, true, false},
            {true, false, false, false, false, true},
        };
        for (int kind = 0; kind < 6; kind++) {
            x.turns(0, kind);
            for (int wanted = 0; wanted < 6; wanted++) {
                Due.is("a " + kind + " as " + wanted, x.as(0, wanted), under[kind][wanted] ? 42 : KIND);
            }
        }
        Due.is("as(0, 6)", x.as(0, 6), BAD);
        Due.is("as(0, -1)", x.as(0, -1), BAD);
        Due.is("as(1, 0)", x.as(1, 0), BAD);
    }

    private static void turns() {
        BentBranches x = new BentBranches();
        Due.curve(x, 2, 0, 1);
        Due.is("turns(0, 5)", x.turns(0, 5), 2);
        Due.is("turns(0, 6)", x.turns(0, 6), BAD);
        Due.is("turns(0, -1)", x.turns(0, -1), BAD);
        Due.is("turns(1, 0)", x.turns(1, 0), BAD);
        Due.is("turns(-1, 0)", x.turns(-1, 0), BAD);
        Due.is("turns(0, 0)", x.turns(0, 0), 5);
        Due.is("c stays", x.term(0, 0, 0), 1);
    }

    private static void mix() {
        BentBranches x = new BentBranches();
        Due.curve(x, 1, 0, 60, 1, -60, 10, 5, 40, 1);
        Due.curve(x, 2, 0, 50, 1, -50, 10, -5, 22, 3);
        Due.curve(x, 5, 3, 9);
        Due.is("sum", x.mix(2, 0, 1, 0), 4);
        Due.is("sum, held", x.term(2, 0, 0), 99);
        Due.is("sum, held from below", x.term(2, 1, 0), -99);
        Due.is("sum of 0", x.term(2, 10, 0), 0);
        Due.is("what was is gone", x.term(2, 3, 0), 0);
        Due.is("its kind stays", x.told(2, 0), 5);
        Due.is("other less one", x.mix(2, 0, 1, 1), 5);
        Due.is("at 0", x.term(2, 0, 0), -10);
        Due.is("at 1", x.term(2, 1, 0), 10);
        Due.is("at 10", x.term(2, 10, 0), -10);
        Due.is("at 40", x.term(2, 40, 0), -1);
        Due.is("at 22", x.term(2, 22, 0), 3);
        Due.is("mix(0, 0, 0, 0)", x.mix(0, 0, 0, 0), 4);
        Due.is("doubled and held", x.term(0, 0, 0), 99);
        Due.is("doubled", x.term(0, 10, 0), 10);
        Due.is("less itself", x.mix(0, 0, 0, 1), 0);
        Due.is("mix of curve 3", x.mix(3, 0, 1, 0), BAD);
        Due.is("mix of one 3", x.mix(1, 3, 1, 0), BAD);
        Due.is("mix of other -1", x.mix(1, 0, -1, 0), BAD);
        Due.is("mix, how 2", x.mix(1, 0, 1, 2), BAD);
        Due.is("mix, how -1", x.mix(1, 0, 1, -1), BAD);
        Due.is("c is as it was", x.term(1, 0, 0), 50);
    }

    private static void deal() {
        BentBranches x = new BentBranches();
        Due.is("deal(0)", x.deal(0), BAD);
        Due.is("deal(7)", x.deal(7), BAD);
        Due.is("no draw by then", x.count(4), 1);
        Due.is("deal(2)", x.deal(2), 2);
        int z = 1;
        for (int curve = 0; curve < 2; curve++) {
            Due.is("kind of a drawn curve", x.told(curve, 0), 0);
            for (int at : PLACES) {
                z = z * 1103515245 + 12345;
                Due.is("drawn c", x.term(curve, at, 0), (z >>> 8) % 7 - 3);
            }
        }
        Due.is("z after 30 draws", x.count(4), z);
        x.curve(4);
        x.curve(4);
        x.curve(4);
        Due.is("room for one", x.deal(6), 1);
        for (int n = 0; n < 15; n++) {
            z = z * 1103515245 + 12345;
        }
        Due.is("z after 15 draws more", x.count(4), z);
        Due.is("no room", x.deal(1), 0);
        Due.is("no draws", x.count(4), z);
        Due.is("curves", x.count(0), 6);
    }

    private static void seed() {
        BentBranches x = new BentBranches();
        Due.is("seed(-7)", x.seed(-7), 1);
        Due.is("seed(MIN)", x.seed(Integer.MIN_VALUE), -7);
        Due.is("z", x.count(4), Integer.MIN_VALUE);
        x.deal(1);
        int z = Integer.MIN_VALUE * 1103515245 + 12345;
        Due.is("drawn from it", x.term(0, 0, 0), (z >>> 8) % 7 - 3);
    }
}
