/** The boundaries of promises 31 to 38, and of SHEETS, SLOTS and FINDINGS, sentence by sentence. */
public final class SheetEdgesTest {
    private static final int BAD = Due.BAD, NO = Due.NO, NONE = Due.NONE, LEAST = Integer.MIN_VALUE, MOST = Integer.MAX_VALUE;
    private static final int NOTHING = Due.NOTHING, KIND = Due.KIND, INDEX = Due.INDEX, SIZE = Due.SIZE;
    private static final int[] NUMBERS = {0, 1, 2, 3, 4, 10, 11, 12, 13, 20, 21, 22, 30, 31, 40};

    public static void main(String[] args) {
        sheetTakesItsArguments();
        sheetOfNoPlaces();
        sheetMissing();
        sheetIsAllZeroAgain();
        markTakesPlacesOfTheRow();
        markOfShorts();
        markOfFloats();
        markRefusedInOrder();
        pourAsFarAsItHasSome();
        pourHolds();
        pourLeavesWhatIsNoNumber();
        pourRefused();
        copyUpToTheEnd();
        copyOfNone();
        copyAsTheyWere();
        copyRefusedInOrder();
        layTakesItsArguments();
        layTellsWhatItHeld();
        layRefused();
        aCurveForGood();
        aRowOfItsOwn();
        askTakesItsArguments();
        askOfEachKind();
        itemTakesPlacesOfTheRow();
        itemRefusedInOrder();
        restOfEachSign();
        restRefusedInOrder();
        Due.end();
    }

    // ---- promise 31, "BAD: sheet, sort, n above 24; SIZE"

    private static void sheetTakesItsArguments() {
        for (Run run : new Run[] {new Run(), Run.some(), Run.full()}) {
            run.argument(0, "sheet", 0, 0, 5).least(0, 5).most(3, 5).beyond(BAD);
            run.argument(1, "sheet", 0, 0, 5).least(-1, 0).most(1, 5).beyond(BAD);
            for (int sort = 0; sort < 2; sort++) {
                run.argument(2, "sheet", 3, sort, 5).least(0, 0).most(24, 24).above(BAD);
                run.refuses(SIZE, "sheet", 3, sort, -1).refuses(SIZE, "sheet", 3, sort, LEAST).refuses(SIZE, "sheet", 0, sort, -24);
                // BAD stands first
                run.refuses(BAD, "sheet", 4, sort, -1).refuses(BAD, "sheet", -1, sort, -1);
            }
            run.refuses(BAD, "sheet", 0, 2, -1).refuses(BAD, "sheet", 0, -2, -1).refuses(BAD, "sheet", 4, -1, 0).refuses(BAD, "sheet", -1, -1, 0);
        }
    }

    // "with 0 to 24 places"
    private static void sheetOfNoPlaces() {
        for (int sort = 0; sort < 2; sort++) {
            Run run = new Run().does(0, "sheet", 0, sort, 0);
            run.refuses(INDEX, "mark", 0, 0, 1).does(0, "lay", 0, 2, 0).refuses(INDEX, "item", 0, 0).asks(0, "copy", 0, 0, 0, 0, 0);
            run.does(1, "sheet", 0, sort, 1).changes(1, "mark", 0, 0, 1).refuses(INDEX, "mark", 0, 1, 1);
            run.does(24, "sheet", 0, sort, 24).changes(1, "mark", 0, 23, 1).refuses(INDEX, "mark", 0, 24, 1);
        }
    }

    // "sort -1: MISSING, n any"
    private static void sheetMissing() {
        for (int n : new int[] {0, 1, 24, 25, -1, LEAST, MOST}) {
            Run.some().changes(0, "sheet", 0, -1, n).does(0, "sheet", 0, -1, n).refuses(NOTHING, "mark", 0, 0, 0).asks(0, "sheet", 0, -1, n);
            new Run().asks(0, "sheet", 0, -1, n);
        }
        // what it held does not come back
        Run run = Run.some().does(0, "sheet", 0, -1, 0).does(3, "sheet", 0, 0, 3);
        run.shows(0, 0, 0).shows(0, 0, 1).shows(0, 0, 2).shows(INDEX, 0, 3);
    }

    // "all 0"
    private static void sheetIsAllZeroAgain() {
        for (int sort = 0; sort < 2; sort++) {
            Run run = Run.full().does(24, "sheet", 1, sort, 24);
            for (int place = 0; place < 24; place++) {
                run.shows(0, 1, place);
            }
            run.shows(INDEX, 1, 24);
            run.does(1, "sheet", 1, sort, 1).shows(0, 1, 0).shows(INDEX, 1, 1);
        }
    }

    // ---- promise 32

    private static void markTakesPlacesOfTheRow() {
        Run.full().argument(1, "mark", 0, 0, 7).least(0, 1).most(23, 1).beyond(INDEX);
        Run.full().argument(1, "mark", 1, 0, 7).least(0, 1).most(23, 1).beyond(INDEX);
        Run.some().argument(1, "mark", 0, 0, 7).least(0, 1).most(2, 1).beyond(INDEX);
        Run.some().argument(1, "mark", 1, 0, 7).least(0, 1).most(3, 1).beyond(INDEX);
        Run.some().does(4, "sheet", 3, 0, 4).argument(0, "mark", 0, 1, 7).least(0, 1).most(3, 1).beyond(BAD);
        Run.some().does(1, "mark", 0, 2, 7).shows(7, 0, 2).shows(-2, 0, 1).shows(1, 0, 0).shows(KIND, 1, 1);
    }

    // "of shorts its lowest 16 bits"
    private static void markOfShorts() {
        int[] given = {32767, 32768, 32769, 65535, 65536, 65537, -32768, -32769, -65536, MOST, LEAST, 98304, 99999, 100000, NONE + 1, NONE - 1, BAD};
        for (int v : given) {
            int rest = Math.floorMod(v, 65536);
            Run.some().does(1, "mark", 0, 1, v).shows(rest < 32768 ? rest : rest - 65536, 0, 1);
        }
        Run.some().does(1, "mark", 0, 1, 32767).shows(32767, 0, 1).does(1, "mark", 0, 1, 32768).shows(-32768, 0, 1)
            .does(1, "mark", 0, 1, -32768).shows(-32768, 0, 1).does(1, "mark", 0, 1, -32769).shows(32767, 0, 1)
            .does(1, "mark", 0, 1, 65535).shows(-1, 0, 1).does(1, "mark", 0, 1, 65536).shows(0, 0, 1);
        Run.some().refuses(KIND, "mark", 0, 1, NONE);
    }

    // "of floats v, -99999 .. 99999; NONE: NO NUMBER"
    private static void markOfFloats() {
        Run.some().argument(2, "mark", 1, 0, 7).least(-99999, 1).most(99999, 1).beyond(BAD);
        Run.some().refuses(BAD, "mark", 1, 0, NONE + 1).refuses(BAD, "mark", 1, 0, NONE - 1).refuses(BAD, "mark", 1, 0, BAD);
        Run.some().does(1, "mark", 1, 0, -99999).shows(-99999, 1, 0).does(1, "mark", 1, 0, 99999).shows(99999, 1, 0)
            .does(1, "mark", 1, 0, NONE).shows(KIND, 1, 0).does(1, "mark", 1, 0, 0).shows(0, 1, 0)
            .does(1, "mark", 1, 0, 99998).shows(99998, 1, 0).does(1, "mark", 1, 0, 32768).shows(32768, 1, 0);
        Run.some().changes(1, "mark", 1, 0, NONE).asks(1, "mark", 1, 1, NONE);
    }

    // "BAD: sheet; NOTHING; INDEX; KIND: NONE in a row of shorts; BAD: v of floats"
    private static void markRefusedInOrder() {
        Run run = Run.some();
        run.refuses(BAD, "mark", 4, 99, NONE).refuses(BAD, "mark", -1, 0, 0);
        run.refuses(NOTHING, "mark", 3, 0, 0).refuses(NOTHING, "mark", 3, -1, NONE).refuses(NOTHING, "mark", 3, 99, 100000);
        run.refuses(INDEX, "mark", 0, 3, NONE).refuses(INDEX, "mark", 0, -1, NONE).refuses(INDEX, "mark", 1, 4, 100000).refuses(INDEX, "mark", 1, -1, -100000);
        run.refuses(INDEX, "mark", 2, 0, 0).refuses(INDEX, "mark", 2, -1, NONE);
    }

    // ---- promise 33, "c of a CURVE, by i, then by j, become the places .. as far as it has some"

    private static void pourAsFarAsItHasSome() {
        for (int places : new int[] {0, 1, 5, 6, 14, 15, 16, 24}) {
            for (int sort = 0; sort < 2; sort++) {
                Run run = new Run().does(0, "curve", 2).does(1, "curve", 0).does(places, "sheet", 0, sort, places);
                for (int place = 0; place < places; place++) {
                    run.does(1, "mark", 0, place, place + 1);
                }
                int due = Math.min(15, places);
                run.does(due, "pour", 0, 0).asks(0, "pour", 0, 0).asks(2, "told", 0, 0);
                for (int n = 0; n < 15; n++) {
                    run.answers(n < places ? n + 1 : 0, "term", 0, NUMBERS[n], 0).answers(0, "term", 1, NUMBERS[n], 0);
                }
            }
        }
    }

    // "each held within -99 .. 99", "how many changed"
    private static void pourHolds() {
        int[] given = {98, 99, 100, 32767, -98, -99, -100, -32768, 0};
        int[] due = {98, 99, 99, 99, -98, -99, -99, -99, 0};
        for (int sort = 0; sort < 2; sort++) {
            for (int n = 0; n < given.length; n++) {
                Run run = new Run().does(0, "curve", 0).does(2, "sheet", 0, sort, 2).does(1, "mark", 0, 1, given[n]);
                run.does(due[n] == 0 ? 0 : 1, "pour", 0, 0).asks(due[n], "term", 0, 1, 0).asks(0, "pour", 0, 0).asks(0, "term", 0, 2, 0);
                run.shows(given[n], 0, 1);
            }
        }
        new Run().does(0, "curve", 0).does(1, "sheet", 0, 1, 1).does(1, "mark", 0, 0, 99999).does(1, "pour", 0, 0).asks(99, "term", 0, 0, 0);
        new Run().draws(0, 0, 0, 99).does(1, "sheet", 0, 0, 1).does(1, "mark", 0, 0, 100).asks(0, "pour", 0, 0);
        new Run().draws(0, 0, 0, 98).does(1, "sheet", 0, 0, 1).does(1, "mark", 0, 0, 100).changes(1, "pour", 0, 0);
    }

    // "NO NUMBER: c stays"
    private static void pourLeavesWhatIsNoNumber() {
        Run run = new Run().draws(0, 0, 0, 5, 1, 6, 2, 7).does(3, "sheet", 0, 1, 3).does(1, "mark", 0, 1, NONE).does(1, "mark", 0, 2, 7);
        run.does(1, "pour", 0, 0).asks(0, "term", 0, 0, 0).asks(6, "term", 0, 1, 0).asks(7, "term", 0, 2, 0).shows(KIND, 0, 1);
        Run.some().does(2, "sheet", 0, 1, 2).does(1, "mark", 0, 0, NONE).does(1, "mark", 0, 1, NONE).asks(0, "pour", 0, 1);
    }

    private static void pourRefused() {
        Run run = Run.some();
        run.argument(1, "pour", 0, 0).least(0, 3).most(1, 3).beyond(BAD);
        run.argument(0, "pour", 0, 1).least(0, 3).most(2, 0);
        run.refuses(NOTHING, "pour", 3, 0).refuses(BAD, "pour", 4, 0).refuses(BAD, "pour", -1, 0).refuses(BAD, "pour", LEAST, 0).refuses(BAD, "pour", MOST, 0);
        // BAD stands first
        run.refuses(BAD, "pour", 3, 2).refuses(BAD, "pour", 3, -1).refuses(BAD, "pour", 4, 2);
    }

    // ---- promise 34

    private static Run twoRows() {
        Run run = new Run().does(5, "sheet", 0, 1, 5).does(3, "sheet", 1, 1, 3).does(5, "sheet", 2, 0, 5);
        for (int place = 0; place < 5; place++) {
            run.does(1, "mark", 0, place, place == 3 ? NONE : 10 + place).does(1, "mark", 2, place, 20 + place);
        }
        return run;
    }

    // "INDEX: there is no such place"
    private static void copyUpToTheEnd() {
        for (int place = -1; place <= 6; place++) {
            for (int at = -1; at <= 4; at++) {
                for (int many = 1; many <= 6; many++) {
                    boolean is = place >= 0 && at >= 0 && place + many <= 5 && at + many <= 3;
                    if (is) {
                        twoRows().changes(many, "copy", 0, place, 1, at, many);
                    } else {
                        twoRows().refuses(INDEX, "copy", 0, place, 1, at, many);
                    }
                }
            }
        }
        for (int far : new int[] {MOST, MOST - 1, MOST - 2, MOST - 4, LEAST, LEAST + 1, 24, 25}) {
            twoRows().refuses(INDEX, "copy", 0, far, 1, 0, 2).refuses(INDEX, "copy", 0, 0, 1, far, 2).refuses(INDEX, "copy", 0, 1, 1, 1, far)
                .refuses(INDEX, "copy", 0, far, 1, far, far).refuses(INDEX, "copy", 0, far, 0, far, 5);
        }
        twoRows().refuses(INDEX, "copy", 0, 0, 1, 0, -1).refuses(INDEX, "copy", 0, 2, 1, 2, -2);
        // a row of no places, and rows as long as there are
        Run.some().refuses(INDEX, "copy", 1, 0, 2, 0, 1).refuses(INDEX, "copy", 2, 0, 1, 0, 1);
        Run.full().does(24, "sheet", 2, 1, 24).changes(24, "copy", 1, 0, 2, 0, 24).refuses(INDEX, "copy", 1, 1, 2, 0, 24)
            .refuses(INDEX, "copy", 1, 0, 2, 1, 24).refuses(INDEX, "copy", 1, 0, 2, 0, 25).changes(1, "copy", 1, 23, 2, 23, 1);
    }

    private static void copyOfNone() {
        twoRows().asks(0, "copy", 0, 0, 1, 0, 0).asks(0, "copy", 0, 4, 1, 2, 0).asks(0, "copy", 0, 5, 1, 3, 0);
        twoRows().refuses(INDEX, "copy", 0, 6, 1, 0, 0).refuses(INDEX, "copy", 0, 0, 1, 4, 0).refuses(INDEX, "copy", 0, -1, 1, 0, 0)
            .refuses(INDEX, "copy", 0, 0, 1, -1, 0);
        Run.some().asks(0, "copy", 2, 0, 1, 0, 0).asks(0, "copy", 2, 0, 2, 0, 0).refuses(INDEX, "copy", 2, 1, 1, 0, 0);
    }

    // "to another one (or the same), as they were"
    private static void copyAsTheyWere() {
        Run run = twoRows().does(4, "copy", 0, 0, 0, 1, 4);
        run.shows(10, 0, 0).shows(10, 0, 1).shows(11, 0, 2).shows(12, 0, 3).shows(KIND, 0, 4);
        run = twoRows().does(4, "copy", 0, 1, 0, 0, 4);
        run.shows(11, 0, 0).shows(12, 0, 1).shows(KIND, 0, 2).shows(14, 0, 3).shows(14, 0, 4);
        run = twoRows().does(2, "copy", 0, 2, 1, 1, 2);
        run.shows(0, 1, 0).shows(12, 1, 1).shows(KIND, 1, 2).shows(12, 0, 2).shows(KIND, 0, 3);
        twoRows().asks(5, "copy", 0, 0, 0, 0, 5).asks(5, "copy", 2, 0, 2, 0, 5);
        run = twoRows().does(5, "sheet", 3, 0, 5).does(5, "copy", 2, 0, 3, 0, 5);
        run.shows(20, 3, 0).shows(24, 3, 4).shows(INDEX, 3, 5);
        // they are its own from then on
        run.does(1, "mark", 2, 0, 9).shows(20, 3, 0).shows(9, 2, 0);
    }

    // "BAD; NOTHING; KIND: they are not of one sort; INDEX"
    private static void copyRefusedInOrder() {
        Run run = twoRows();
        run.argument(0, "copy", 0, 0, 1, 0, 1).least(0, 1).most(1, 1);
        for (int sheet : new int[] {-1, 4, LEAST, MOST}) {
            run.refuses(BAD, "copy", sheet, 0, 0, 0, 1).refuses(BAD, "copy", 0, 0, sheet, 0, 1).refuses(BAD, "copy", sheet, 0, sheet, 0, 1);
            run.refuses(BAD, "copy", sheet, 0, 3, 0, 1).refuses(BAD, "copy", 3, 0, sheet, 0, 1);
        }
        run.refuses(NOTHING, "copy", 3, 0, 0, 0, 1).refuses(NOTHING, "copy", 0, 0, 3, 0, 1).refuses(NOTHING, "copy", 3, 0, 3, 0, 1);
        run.refuses(NOTHING, "copy", 3, -1, 2, 9, 99).refuses(NOTHING, "copy", 2, -1, 3, 9, -1).refuses(NOTHING, "copy", 3, 0, 3, 0, 0);
        run.refuses(KIND, "copy", 0, 0, 2, 0, 1).refuses(KIND, "copy", 2, 0, 0, 0, 1).refuses(KIND, "copy", 2, 0, 1, 0, 0);
        run.refuses(KIND, "copy", 0, 9, 2, 0, 1).refuses(KIND, "copy", 2, 0, 0, -1, 1).refuses(KIND, "copy", 0, 0, 2, 0, -1);
    }

    // ---- promise 35, "SLOTS 0 .. 4 each hold nothing (at first)"

    private static void layTakesItsArguments() {
        Run run = Run.some();
        run.argument(0, "lay", 0, 3, 9).least(0, 0).most(4, 0).beyond(BAD);
        run.argument(1, "lay", 3, 0, 0).least(0, 3).most(3, 3).beyond(BAD);
        run.argument(2, "lay", 0, 1, 0).least(0, 0).most(1, 0).beyond(BAD);
        run.argument(2, "lay", 0, 2, 0).least(0, 0).most(2, 0);
        for (int sheet : new int[] {-1, 4, LEAST, MOST}) {
            run.refuses(BAD, "lay", 0, 2, sheet);
        }
        Run.full().argument(2, "lay", 0, 1, 0).least(0, 1).most(5, 1).beyond(BAD);
        Run.full().argument(0, "lay", 0, 0, 0).least(0, 1).most(4, 3).beyond(BAD);
        Run.full().does(3, "sheet", 3, 0, 3).argument(2, "lay", 0, 2, 0).least(0, 1).most(3, 1).beyond(BAD);
        // nothing is laid of any k; a number is any one
        for (int k : new int[] {-1, 99, LEAST, MOST}) {
            run.asks(0, "lay", 0, 0, k).changes(3, "lay", 3, 0, k).changes(0, "lay", 0, 3, k);
        }
    }

    // "what it held (0 .. 3)"
    private static void layTellsWhatItHeld() {
        int[] k = {0, 1, 1, 17};
        for (int before = 0; before < 4; before++) {
            for (int thing = 0; thing < 4; thing++) {
                Run run = Run.some().does(0, "lay", 4, before, k[before]);
                run.does(before, "lay", 4, thing, k[thing]).asks(thing, "lay", 4, thing, k[thing]);
            }
        }
        // what was held is gone with it
        Run.some().does(3, "lay", 3, 0, 0).refuses(NOTHING, "rest", 3, 1).does(1, "lay", 1, 3, 4).refuses(KIND, "ask", 1, 0)
            .does(2, "lay", 2, 1, 0).refuses(KIND, "item", 2, 0).asks(2, "ask", 2, 0);
    }

    // "BAD: slot, thing, k; NOTHING: that SHEET is MISSING"
    private static void layRefused() {
        Run run = Run.some();
        run.refuses(NOTHING, "lay", 0, 2, 3).refuses(NOTHING, "lay", 2, 2, 3).refuses(BAD, "lay", 5, 2, 3).refuses(BAD, "lay", -1, 2, 3);
        run.refuses(BAD, "lay", 5, 1, 0).refuses(BAD, "lay", 5, 0, 0).refuses(BAD, "lay", 5, 3, 0).refuses(BAD, "lay", 2, 1, 2).refuses(BAD, "lay", 3, 2, 4);
        run.asks(-9, "ask", 1, 0);
    }

    // "a CURVE (as it is then, for good)"
    private static void aCurveForGood() {
        Run run = Run.some();
        run.asks(-9, "ask", 1, 0);
        run.does(-7, "put", 1, 11, 0).asks(-9, "ask", 1, 0).does(3, "turns", 1, 4).asks(-9, "ask", 1, 3).refuses(KIND, "ask", 1, 4);
        run.does(4, "mix", 1, 0, 1, 1).asks(-9, "ask", 1, 0).does(2, "text").asks(-9, "ask", 1, 0);
        run.does(2, "back").asks(-9, "ask", 1, 1).does(2, "curve", 0).asks(-9, "ask", 1, 0).does(3, "keep").asks(-9, "ask", 1, 0);
        run.does(1, "lay", 1, 1, 1).asks(-8, "ask", 1, 0);
    }

    // "a SHEET (a row of its own, as it was then)"
    private static void aRowOfItsOwn() {
        Run run = Run.some();
        run.does(1, "mark", 1, 0, 6).does(1, "mark", 1, 1, 6).does(1, "mark", 1, 2, NONE);
        run.asks(5, "item", 2, 0).refuses(KIND, "item", 2, 1).asks(99999, "item", 2, 2).asks(0, "item", 2, 3);
        run.does(24, "sheet", 1, 0, 24).asks(5, "item", 2, 0).refuses(INDEX, "item", 2, 4);
        run.does(0, "sheet", 1, -1, 0).asks(5, "item", 2, 0).refuses(INDEX, "item", 2, 4);
        run.does(0, "lay", 0, 2, 0).does(0, "lay", 4, 2, 0).does(1, "mark", 0, 0, 8).asks(1, "item", 0, 0).does(2, "lay", 4, 2, 0).asks(8, "item", 4, 0).asks(1, "item", 0, 0);
    }

    // ---- promise 36

    private static void askTakesItsArguments() {
        Run run = Run.some();
        run.argument(0, "ask", 0, 0).least(0, NOTHING).most(4, NOTHING).beyond(BAD);
        run.argument(1, "ask", 1, 0).least(0, -9).most(5, KIND).beyond(BAD);
        Run.full().argument(0, "ask", 0, 0).least(0, -5 - 1).most(4, KIND).beyond(BAD);
        // "BAD; NOTHING; KIND"
        run.refuses(BAD, "ask", 0, 6).refuses(BAD, "ask", 0, -1).refuses(BAD, "ask", 2, 6).refuses(BAD, "ask", 3, -1).refuses(BAD, "ask", 5, 6);
        for (int kind = 0; kind < 6; kind++) {
            run.refuses(NOTHING, "ask", 0, kind).refuses(KIND, "ask", 2, kind).refuses(KIND, "ask", 3, kind);
        }
    }

    // "KIND: it is no CURVE, or not of that KIND, nor of one under it"
    private static void askOfEachKind() {
        int[][] under = {{0}, {0, 1}, {0, 2}, {0, 1, 3}, {0, 2, 4}, {0, 5}};
        int[] worth = {2, 2 - 99, 4, -2 + 99, 5, 42};
        for (int kind = 0; kind < 6; kind++) {
            Run run = new Run().draws(0, kind, 0, 42, 10, -99).does(0, "lay", 4, 1, 0);
            for (int wanted = 0; wanted < 6; wanted++) {
                boolean is = false;
                for (int one : under[kind]) {
                    is |= one == wanted;
                }
                run.refuses(is ? worth[kind] : KIND, "ask", 4, wanted);
            }
        }
    }

    // ---- promise 37

    private static void itemTakesPlacesOfTheRow() {
        Run.some().argument(1, "item", 2, 0).least(0, 5).most(3, 0).beyond(INDEX);
        Run.full().argument(1, "item", 1, 0).least(0, -99999).most(23, KIND).beyond(INDEX);
        Run.full().does(3, "lay", 4, 2, 0).argument(1, "item", 4, 0).least(0, 0).most(23, -1).beyond(INDEX);
        Run.some().does(0, "lay", 4, 2, 2).refuses(INDEX, "item", 4, 0).refuses(INDEX, "item", 4, -1);
        Run.some().argument(0, "item", 0, 0).least(0, NOTHING).most(4, NOTHING).beyond(BAD);
    }

    // "BAD: slot; NOTHING; KIND: it is no SHEET; INDEX; KIND: NO NUMBER"
    private static void itemRefusedInOrder() {
        Run run = Run.some();
        run.refuses(BAD, "item", 5, -1).refuses(BAD, "item", -1, 99).refuses(NOTHING, "item", 0, -1).refuses(NOTHING, "item", 4, 99);
        run.refuses(KIND, "item", 1, 0).refuses(KIND, "item", 1, -1).refuses(KIND, "item", 3, 0).refuses(KIND, "item", 3, 99);
        run.refuses(INDEX, "item", 2, 4).refuses(INDEX, "item", 2, -1).refuses(KIND, "item", 2, 1);
    }

    // ---- promise 38, "/ cuts towards 0"

    private static void restOfEachSign() {
        int[][] due = {{17, 5, 2}, {17, -5, 2}, {-17, 5, -2}, {-17, -5, -2}, {17, 17, 0}, {17, 18, 17}, {17, 16, 1}, {17, 1, 0}, {17, -1, 0}, {0, 5, 0},
            {LEAST, -1, 0}, {LEAST, 1, 0}, {LEAST, LEAST, 0}, {LEAST, MOST, -1}, {MOST, LEAST, MOST}, {MOST, MOST, 0}, {LEAST, 10, -8}, {1, LEAST, 1}};
        for (int[] one : due) {
            new Run().does(0, "lay", 4, 3, one[0]).asks(one[2], "rest", 4, one[1]);
        }
    }

    // "BAD: slot; NOTHING; KIND: it is no number; NO: n is 0"
    private static void restRefusedInOrder() {
        Run run = Run.some();
        run.argument(0, "rest", 3, 5).least(0, NOTHING).most(4, NOTHING).beyond(BAD);
        run.refuses(NO, "rest", 3, 0).asks(0, "rest", 3, 1).asks(0, "rest", 3, -1).asks(17, "rest", 3, LEAST);
        run.refuses(BAD, "rest", 5, 0).refuses(BAD, "rest", -1, 0).refuses(NOTHING, "rest", 0, 0).refuses(KIND, "rest", 1, 0).refuses(KIND, "rest", 2, 0);
        run.refuses(KIND, "rest", 1, 5).refuses(KIND, "rest", 2, 5);
    }
}
