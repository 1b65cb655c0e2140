/** The boundaries of promises 1 to 10, and of the sections CURVES and "What it is", sentence by sentence. */
public final class CurveEdgesTest {
    private static final int BAD = Due.BAD, NO = Due.NO, FULL = Due.FULL, KIND = Due.KIND, NONE = Due.NONE, NOTHING = Due.NOTHING;
    private static final int LEAST = Integer.MIN_VALUE, MOST = Integer.MAX_VALUE;

    public static void main(String[] args) {
        fiveHundredAndTwelveCalls();
        aLookSeesEachChange();
        aNewObjectHasNoCurves();
        curvesSixAtMost();
        kindsZeroToFive();
        aCurveBeginsWithZeros();
        putTakesWhatTogetherIsFourAtMost();
        putTakesNumbersWithin99();
        termTellsWhatItTakes();
        termIsHeldWithin99();
        termOfTurned();
        termOfOpposite();
        termOfMirrored();
        termOfDoubledIsNotHeldAgain();
        termOfFlat();
        worth();
        degree();
        termsThatAreNotZero();
        toldTellsWhatItTakes();
        asTakesAKindAndThoseUnderIt();
        turns();
        mixHoldsSums();
        mixHoldsDifferences();
        mixOfTheCurveItself();
        mixRefused();
        dealTakesOneToSix();
        dealAsManyAsThereIsRoomFor();
        drawsAreNeverBelowZero();
        seedTakesAnyNumber();
        Due.end();
    }

    // ---- "An object is used for at most 512 calls": the 512th is answered as the first one

    private static void fiveHundredAndTwelveCalls() {
        BentBranches x = new BentBranches();
        Due.curve(x, 0, 2, 1, 40, -1);
        for (int call = 4; call < 512; call++) {
            Due.is("genus, call " + call, x.genus(0), 1);
        }
        Due.is("the 512th call", x.genus(0), 1);
        BentBranches y = new BentBranches();
        int[] text = Due.twelves("term 1      ").get(0);
        for (int n = 0; n < 256; n++) {
            Due.is("feed " + n, y.feed(text[0], text[1], text[2]), 12);
            Due.is("text " + n, y.text(), n < 14 ? n : FULL);
        }
    }

    /** What the other tests call unchanged is looked at whole: each thing that can change is seen. */
    private static void aLookSeesEachChange() {
        Run run = Run.some();
        run.changes(2, "curve", 0).changes(0, "put", 0, 31, 1).changes(3, "turns", 1, 2).changes(5, "mix", 1, 0, 1, 0);
        run.changes(1, "deal", 1).changes(5, "seed", 6).changes(20, "feed", 0, 0, 0).changes(7, "trim", 7).changes(2, "text");
        run.changes(0, "sheet", 0, -1, 0).changes(0, "sheet", 2, 0, 0).changes(1, "mark", 1, 3, 1).changes(1, "mark", 1, 1, 0);
        run.changes(1, "mark", 1, 0, NONE).changes(1, "mark", 0, 2, 299).changes(3, "pour", 0, 1).changes(1, "copy", 0, 0, 0, 2, 1);
        run.changes(1, "lay", 1, 1, 0).changes(0, "lay", 0, 3, 0).changes(0, "lay", 4, 2, 1).changes(3, "lay", 3, 3, 18);
        run.changes(3, "tell", 0).changes(0, "check", 0, 1).changes(2, "keep").changes(2, "back");
    }

    // ---- promise 1: "As told; no CURVES."

    private static void aNewObjectHasNoCurves() {
        Run run = new Run();
        run.asks(0, "count", 0).asks(0, "count", 1).asks(0, "count", 2).asks(0, "count", 3).asks(1, "count", 4);
        run.refuses(BAD, "put", 0, 0, 0).refuses(BAD, "term", 0, 0, 0).refuses(BAD, "told", 0, 0).refuses(BAD, "as", 0, 0);
        run.refuses(BAD, "turns", 0, 0).refuses(BAD, "mix", 0, 0, 0, 0).refuses(BAD, "value", 0, 0, 0).refuses(BAD, "times", 0, 505);
        run.refuses(BAD, "shape", 0, 505, 0).refuses(BAD, "lowest", 0, 505, 0).refuses(BAD, "slopes", 0, 505).refuses(BAD, "often", 0, 505, 0);
        run.refuses(BAD, "blown", 0, 505, 0, 6).refuses(BAD, "tree", 0, 505, 1, 0).refuses(BAD, "corner", 0, 505, 0);
        run.refuses(BAD, "power", 0, 505, 0).refuses(BAD, "line", 0, 505, 0).refuses(BAD, "all", 0, 0).refuses(BAD, "on", 0, 0);
        run.refuses(BAD, "genus", 0).refuses(BAD, "both", 0, 0).refuses(BAD, "pour", 0, 0).refuses(BAD, "lay", 0, 1, 0);
        run.refuses(BAD, "textTold", 0, 0).refuses(NONE, "why", 0).refuses(NONE, "why", 1).refuses(NONE, "why", 2);
        run.refuses(NO, "back").refuses(NO, "check", 0, 1).refuses(BAD, "trim", 1);
        for (int sheet = 0; sheet < 4; sheet++) {
            run.refuses(NOTHING, "mark", sheet, 0, 0).refuses(NOTHING, "lay", 0, 2, sheet);
        }
        for (int slot = 0; slot < 5; slot++) {
            run.refuses(NOTHING, "ask", slot, 0).refuses(NOTHING, "item", slot, 0).refuses(NOTHING, "rest", slot, 1);
        }
        run.changes(0, "curve", 0);
    }

    // ---- promise 2, "CURVES, 6 at most, numbered from 0"

    private static void curvesSixAtMost() {
        Run run = new Run();
        for (int n = 0; n < 6; n++) {
            run.does(n, "curve", 5 - n).asks(n + 1, "count", 0);
        }
        run.refuses(FULL, "curve", 0).refuses(FULL, "curve", 5).asks(6, "count", 0);
        run.refuses(BAD, "curve", 6).refuses(BAD, "curve", -1);
        Run.full().refuses(FULL, "curve", 0);
        // The sixth curve is one, a seventh is none; so is one below 0.
        run.argument(0, "told", 0, 0).least(0, 5).most(5, 0).beyond(BAD);
        Run.some().argument(0, "told", 0, 0).least(0, 0).most(1, 3).beyond(BAD);
    }

    private static void kindsZeroToFive() {
        new Run().argument(0, "curve", 0).least(0, 0).most(5, 0).beyond(BAD);
        Run.some().argument(0, "curve", 0).least(0, 2).most(5, 2).beyond(BAD);
    }

    private static void aCurveBeginsWithZeros() {
        Run run = new Run().does(0, "keep").does(6, "deal", 6).does(0, "back");
        for (int curve = 0; curve < 6; curve++) {
            run.does(curve, "curve", 0).asks(0, "told", curve, 2).asks(-1, "told", curve, 1).asks(0, "term", curve, 40, 0);
        }
    }

    // ---- promise 3, "i, j from 0 on with i and j together 4 at most, -99 .. 99 each"

    private static boolean isNumber(int at) {
        return at >= 0 && at / 10 + at % 10 <= 4;
    }

    private static void putTakesWhatTogetherIsFourAtMost() {
        Run run = Run.some();
        for (int at = -45; at <= 145; at++) {
            if (isNumber(at)) {
                run.answers(at == 0 ? 4 : at == 10 ? 6 : at == 11 ? -7 : 0, "put", 1, at, 9);
            } else {
                run.answers(BAD, "put", 1, at, 9);
            }
        }
        for (int at : new int[] {5, 14, 23, 32, 41, 50, -1, -10, -11, LEAST, MOST}) {
            run.refuses(BAD, "put", 1, at, 9);
        }
        run.changes(0, "put", 1, 4, 9).changes(0, "put", 1, 13, 9).changes(0, "put", 1, 22, 9).changes(0, "put", 1, 31, 9).changes(0, "put", 1, 40, 9);
        run.argument(0, "put", 0, 0, 7).least(0, 0).most(1, 4).beyond(BAD);
    }

    private static void putTakesNumbersWithin99() {
        Run run = Run.some();
        run.argument(2, "put", 1, 10, 0).least(-99, 6).most(99, 6).beyond(BAD);
        run.does(6, "put", 1, 10, -99).asks(-99, "term", 1, 10, 0).does(-99, "put", 1, 10, 99).asks(99, "term", 1, 10, 0);
        run.refuses(BAD, "put", 1, 10, 100).asks(99, "term", 1, 10, 0);
    }

    // ---- promise 4

    private static void termTellsWhatItTakes() {
        Run run = Run.some();
        for (int at = -45; at <= 145; at++) {
            int due = at == 0 ? 4 : at == 10 ? 6 : at == 11 ? -7 : 0;
            run.answers(isNumber(at) ? due : BAD, "term", 1, at, 0);
            run.answers(isNumber(at) ? -(at == 1 ? 6 : at == 10 ? 0 : due) : BAD, "term", 1, at, 1);
        }
        for (int what = 0; what < 2; what++) {
            for (int at : new int[] {5, 14, 23, 32, 41, 50, -1, -10, LEAST, MOST}) {
                run.refuses(BAD, "term", 1, at, what);
            }
        }
        run.argument(2, "term", 1, 0, 0).least(0, 4).most(1, -4).beyond(BAD);
        run.argument(0, "term", 0, 0, 0).least(0, 0).most(1, 4).beyond(BAD);
    }

    /** TERM of i 3, j 1, c 2 of a curve of a kind. */
    private static void term(int kind, String text, int due) {
        Run run = new Run().draws(0, kind, 31, 2, 13, 3);
        run.tells(0, "term " + text).asks(due, "term", 0, 31, 1).asks(2, "term", 0, 31, 0);
    }

    // "CURVE: what term gives, held within -99 .. 99 (without a TEXT: c of i, j)"
    private static void termIsHeldWithin99() {
        term(0, "98", 98);
        term(0, "99", 99);
        term(0, "100", 99);
        term(0, "9999*9999", 99);
        term(0, "0-98", -98);
        term(0, "0-99", -99);
        term(0, "0-100", -99);
        term(0, "0-9999*9999", -99);
        // the greatest and the least int
        term(0, "256*256*256*128-1", 99);
        term(0, "256*256*256*128", -99);
        term(0, "c", 2);
        term(0, "i*10+j", 31);
        // a text gives numbers where c is 0, and 0 where c is not
        new Run().draws(0, 0, 0, 5).tells(0, "term i+j=4").asks(0, "term", 0, 0, 1).asks(1, "term", 0, 4, 1).asks(1, "term", 0, 40, 1)
            .asks(0, "term", 0, 30, 1).asks(5, "told", 0, 3).asks(4, "told", 0, 1);
        new Run().draws(0, 0, 0, 99, 40, -99).asks(99, "term", 0, 0, 1).asks(-99, "term", 0, 40, 1);
    }

    // "TURNED: as CURVE of j, i"
    private static void termOfTurned() {
        new Run().draws(0, 1, 1, 7, 10, 8, 40, 9, 22, 6).asks(8, "term", 0, 1, 1).asks(7, "term", 0, 10, 1).asks(9, "term", 0, 4, 1)
            .asks(0, "term", 0, 40, 1).asks(6, "term", 0, 22, 1);
        term(1, "c", 3);
        term(1, "i*10+j", 13);
        term(1, "100", 99);
        term(1, "0-100", -99);
    }

    // "OPPOSITE: as TURNED, with the other sign"
    private static void termOfOpposite() {
        new Run().draws(0, 3, 1, 99, 10, -99, 22, 6).asks(99, "term", 0, 1, 1).asks(-99, "term", 0, 10, 1).asks(-6, "term", 0, 22, 1)
            .asks(0, "term", 0, 0, 1);
        term(3, "c", -3);
        term(3, "i*10+j", -13);
        term(3, "100", -99);
        term(3, "0-100", 99);
    }

    // "MIRRORED: as CURVE, with the other sign if i is odd"
    private static void termOfMirrored() {
        Run run = new Run().draws(0, 2, 0, 7, 10, 7, 20, 7, 30, 7, 40, 7, 1, 7, 3, 7);
        run.asks(7, "term", 0, 0, 1).asks(-7, "term", 0, 10, 1).asks(7, "term", 0, 20, 1).asks(-7, "term", 0, 30, 1).asks(7, "term", 0, 40, 1);
        run.asks(7, "term", 0, 1, 1).asks(7, "term", 0, 3, 1);
        term(2, "c", -2);
        term(2, "i*10+j", -31);
        term(2, "100", -99);
    }

    // "DOUBLED: twice as MIRRORED"
    private static void termOfDoubledIsNotHeldAgain() {
        new Run().draws(0, 4, 20, 50, 10, 50, 2, -99).asks(100, "term", 0, 20, 1).asks(-100, "term", 0, 10, 1).asks(-198, "term", 0, 2, 1);
        term(4, "49", -98);
        term(4, "50", -100);
        term(4, "99", -198);
        term(4, "100", -198);
        term(4, "0-100", 198);
    }

    // "FLAT: as CURVE if j is 0, else 0"
    private static void termOfFlat() {
        new Run().draws(0, 5, 0, 7, 40, -99, 1, 7, 4, 7, 31, 7).asks(7, "term", 0, 0, 1).asks(-99, "term", 0, 40, 1).asks(0, "term", 0, 1, 1)
            .asks(0, "term", 0, 4, 1).asks(0, "term", 0, 31, 1).asks(7, "term", 0, 31, 0);
        new Run().draws(0, 5).tells(0, "term 100").asks(99, "term", 0, 0, 1).asks(99, "term", 0, 30, 1).asks(0, "term", 0, 1, 1);
    }

    // ---- promise 5, "WORTH .. DEGREE .."

    private static Run turned(int kind, int... numbers) {
        return new Run().draws(0, kind, numbers);
    }

    private static void worth() {
        int[] all = {0, -99, 1, 1, 2, 1, 3, 1, 4, 1, 10, 99, 11, 1, 12, 1, 13, 1, 20, 1, 21, 1, 22, 1, 30, 1, 31, 1, 40, 1};
        int[] dueOfAll = {15, 15 + 99, 30, -15 - 99, 31, -99};
        int[] dueOfNone = {0, 0, 0, 0, 1, 0};
        int[] dueOfOne = {1, 1 - 99, 2, -1 + 99, 3, 0};
        for (int kind = 0; kind < 6; kind++) {
            turned(kind, all).asks(dueOfAll[kind], "told", 0, 2);
            turned(kind).asks(dueOfNone[kind], "told", 0, 2);
            turned(kind, 10, -99).asks(dueOfOne[kind], "told", 0, 2);
        }
        // c counts, not TERMS: a text changes nothing
        turned(0, 0, 1).tells(0, "term 1").asks(1, "told", 0, 2).asks(15, "told", 0, 3);
    }

    // "the greatest i and j together with a TERM that is not 0; -1: there is none"
    private static void degree() {
        for (int kind = 0; kind < 6; kind++) {
            turned(kind).asks(-1, "told", 0, 1);
            turned(kind, 0, -1).asks(0, "told", 0, 1);
        }
        for (int at : new int[] {0, 1, 2, 3, 4, 10, 11, 12, 13, 20, 21, 22, 30, 31, 40}) {
            turned(0, at, 1).asks(at / 10 + at % 10, "told", 0, 1);
            turned(1, at, -1).asks(at / 10 + at % 10, "told", 0, 1);
            turned(5, at, 1).asks(at % 10 == 0 ? at / 10 : -1, "told", 0, 1);
        }
        turned(0, 40, 1).tells(0, "term c*(i<4)").asks(-1, "told", 0, 1).does(0, "put", 0, 12, 1).asks(3, "told", 0, 1);
        turned(0).tells(0, "term 1").asks(4, "told", 0, 1);
    }

    private static void termsThatAreNotZero() {
        turned(0).asks(0, "told", 0, 3);
        turned(0, 4, 1).asks(1, "told", 0, 3);
        turned(0).tells(0, "term 1").asks(15, "told", 0, 3).does(0, "turns", 0, 5).asks(5, "told", 0, 3);
        turned(3, 0, 1, 40, 2).tells(0, "term 0").asks(0, "told", 0, 3).asks(-2, "told", 0, 2);
    }

    private static void toldTellsWhatItTakes() {
        // curve 1 of some(): OPPOSITE, c of 1, x and x y
        Run run = Run.some();
        run.argument(1, "told", 1, 0).least(0, 3).most(3, 3).beyond(BAD);
        run.asks(2, "told", 1, 1).asks(-9, "told", 1, 2);
        run.refuses(BAD, "told", 2, 4);
    }

    // ---- promise 6

    private static void asTakesAKindAndThoseUnderIt() {
        int[][] under = {{0}, {0, 1}, {0, 2}, {0, 1, 3}, {0, 2, 4}, {0, 5}};
        for (int kind = 0; kind < 6; kind++) {
            Run run = new Run().draws(0, kind, 0, -99, 11, 7);
            for (int wanted = 0; wanted < 6; wanted++) {
                boolean is = false;
                for (int one : under[kind]) {
                    is |= one == wanted;
                }
                run.refuses(is ? -99 : KIND, "as", 0, wanted);
            }
        }
        Run.some().argument(1, "as", 0, 0).least(0, 0).most(5, KIND).beyond(BAD);
        Run.some().argument(0, "as", 0, 0).least(0, 0).most(1, 4).beyond(BAD);
        Run.full().argument(0, "as", 0, 5).least(0, KIND).most(5, 0).beyond(BAD);
        // c, not what a text makes of it
        new Run().draws(0, 5, 0, 3).tells(0, "term 50").asks(3, "as", 0, 5);
    }

    // ---- promise 7

    private static void turns() {
        Run.some().argument(1, "turns", 1, 0).least(0, 3).most(5, 3).beyond(BAD);
        Run.some().argument(0, "turns", 0, 4).least(0, 0).most(1, 3).beyond(BAD);
        Run run = Run.some();
        run.asks(3, "turns", 1, 3).changes(3, "turns", 1, 4);
        run.does(3, "turns", 1, 5).asks(5, "told", 1, 0).asks(0, "told", 0, 0).asks(4, "term", 1, 0, 0).asks(-7, "term", 1, 11, 0);
        run.does(5, "turns", 1, 0).asks(0, "told", 1, 0);
    }

    // ---- promise 8, "each held within -99 .. 99"

    private static void mixed(int one, int other, int how, int due) {
        Run run = new Run().draws(0, 0, 0, one, 40, one).draws(1, 0, 0, other, 40, other).draws(2, 4, 0, 50, 11, 3);
        run.does(due == 0 ? 0 : 2, "mix", 2, 0, 1, how);
        run.asks(due, "term", 2, 0, 0).asks(due, "term", 2, 40, 0).asks(0, "term", 2, 11, 0).asks(4, "told", 2, 0);
        run.asks(one, "term", 0, 0, 0).asks(other, "term", 1, 0, 0);
    }

    private static void mixHoldsSums() {
        mixed(49, 49, 0, 98);
        mixed(50, 49, 0, 99);
        mixed(50, 50, 0, 99);
        mixed(99, 99, 0, 99);
        mixed(-49, -49, 0, -98);
        mixed(-50, -49, 0, -99);
        mixed(-50, -50, 0, -99);
        mixed(-99, -99, 0, -99);
        mixed(99, -99, 0, 0);
    }

    // "the other less the one"
    private static void mixHoldsDifferences() {
        mixed(-49, 49, 1, 98);
        mixed(-50, 49, 1, 99);
        mixed(-50, 50, 1, 99);
        mixed(-99, 99, 1, 99);
        mixed(49, -49, 1, -98);
        mixed(50, -49, 1, -99);
        mixed(50, -50, 1, -99);
        mixed(99, -99, 1, -99);
        mixed(99, 99, 1, 0);
        mixed(3, 5, 1, 2);
    }

    // "of two (any) CURVES"
    private static void mixOfTheCurveItself() {
        Run run = new Run().draws(0, 0, 0, 5, 4, 60).draws(1, 0, 0, 7, 1, -1);
        run.changes(2, "mix", 0, 0, 0, 0).changes(0, "mix", 0, 0, 0, 1).changes(3, "mix", 0, 0, 1, 0).changes(3, "mix", 0, 1, 0, 1);
    }

    private static void mixRefused() {
        Run run = new Run().draws(0, 0, 0, 5, 4, 60).draws(1, 0, 0, 7, 1, -1);
        for (int which = 0; which < 3; which++) {
            run.argument(which, "mix", 0, 0, 0, 0).least(0, 2).most(1, which == 0 ? 2 : 3).beyond(BAD);
        }
        run.argument(3, "mix", 1, 0, 1, 0).least(0, 3).most(1, 3).beyond(BAD);
        // all fifteen c, and none, are counted
        Run all = new Run().does(2, "deal", 2).tells(0, "term 0");
        all.does(0, "mix", 0, 1, 1, 1).asks(0, "told", 0, 2);
        Run full = new Run().does(0, "curve", 0).does(15, "sheet", 0, 0, 15);
        for (int n = 0; n < 15; n++) {
            full.does(1, "mark", 0, n, n + 1);
        }
        full.does(15, "pour", 0, 0).changes(15, "mix", 0, 0, 0, 0);
    }

    // ---- promises 9 and 10

    private static void dealTakesOneToSix() {
        new Run().argument(0, "deal", 1).least(1, 1).most(6, 6).beyond(BAD);
        Run.full().argument(0, "deal", 1).least(1, 0).most(6, 0).beyond(BAD);
    }

    // "as many as there is room for (no draws for others): how many came"
    private static void dealAsManyAsThereIsRoomFor() {
        for (int there = 0; there <= 6; there++) {
            Run run = new Run();
            for (int n = 0; n < there; n++) {
                run.does(n, "curve", 4);
            }
            int z = 1;
            for (int n = there; n < 6; n++) {
                z = drawn(z, 15);
            }
            run.does(6 - there, "deal", 6).asks(6, "count", 0).asks(z, "count", 4);
            if (there < 6) {
                run.asks(0, "told", 5, 0);
            }
            run.asks(0, "deal", 1).asks(0, "deal", 6).refuses(FULL, "curve", 0);
        }
        new Run().does(5, "deal", 5).changes(1, "deal", 2).does(1, "deal", 1).asks(drawn(1, 90), "count", 4);
    }

    private static int drawn(int z, int draws) {
        int v = z;
        for (int n = 0; n < draws; n++) {
            v = v * 1103515245 + 12345;
        }
        return v;
    }

    /** The z after which a draw makes z the one that is told. */
    private static int ahead(int z) {
        int inverse = 1;
        for (int n = 0; n < 5; n++) {
            inverse *= 2 - 1103515245 * inverse;
        }
        return (z - 12345) * inverse;
    }

    // "z becomes z * 1103515245 + 12345 (an int); it gives z >>> 8 .. the rest of a draw by 7, less 3"
    private static void drawsAreNeverBelowZero() {
        int[] z = {0, 255, 256, 6 * 256, 7 * 256, MOST, LEAST, -1, -256, -257};
        int[] due = {-3, -3, -2, 3, -3, 0, 1, -3, -3, 3};
        for (int n = 0; n < z.length; n++) {
            Due.is("the draw from " + ahead(z[n]), drawn(ahead(z[n]), 1), z[n]);
            new Run().does(1, "seed", ahead(z[n])).does(1, "deal", 1).asks(due[n], "term", 0, 0, 0).asks(drawn(z[n], 14), "count", 4);
        }
        // by i, then by j: the second is of y, the sixth of x, the last of x x x x
        new Run().does(1, "seed", ahead(ahead(6 * 256))).does(1, "deal", 1).asks(3, "term", 0, 1, 0);
        int sixth = ahead(ahead(ahead(ahead(ahead(ahead(6 * 256))))));
        new Run().does(1, "seed", sixth).does(1, "deal", 1).asks(3, "term", 0, 10, 0);
        int last = 6 * 256;
        for (int n = 0; n < 15; n++) {
            last = ahead(last);
        }
        new Run().does(1, "seed", last).does(1, "deal", 1).asks(3, "term", 0, 40, 0).asks(6 * 256, "count", 4);
    }

    private static void seedTakesAnyNumber() {
        Run run = Run.some();
        run.changes(5, "seed", LEAST).changes(5, "seed", MOST).changes(5, "seed", 0).asks(5, "seed", 5);
        run.does(5, "seed", LEAST).does(LEAST, "seed", MOST).does(MOST, "seed", BAD).does(BAD, "seed", 0).asks(0, "count", 4);
        run.does(1, "deal", 1).asks(3, "term", 2, 0, 0);
    }
}
