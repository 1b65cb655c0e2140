/** The boundaries of promises 39 to 43, of AN IMAGE and of THE PLACES TOLD, sentence by sentence. */
public final class RowEdgesTest {
    private static final int BAD = Due.BAD, NO = Due.NO, FULL = Due.FULL, NONE = Due.NONE, NOTHING = Due.NOTHING, INDEX = Due.INDEX;
    private static final int LEAST = Integer.MIN_VALUE, MOST = Integer.MAX_VALUE;

    public static void main(String[] args) {
        sixtyNumbersWait();
        anyNumberWaits();
        checkTakesOneToThirty();
        checkRefusedInOrder();
        checkUsesUpWhatWaits();
        checkOfAsManyAsThereAre();
        checkTellsTheFirstFault();
        checkOfThirtyPlaces();
        checkOfTheImage();
        keepCountsCurves();
        backWithoutAnImage();
        backToAllThatIsKept();
        backLeavesTheRest();
        backAgainAndAgain();
        aLaterImageIsTheOne();
        countTellsWhatItTakes();
        Due.end();
    }

    // ---- promise 39, "FULL: 60 wait"

    private static void sixtyNumbersWait() {
        Run run = new Run();
        for (int n = 1; n <= 59; n++) {
            run.does(n, "tell", n);
        }
        run.changes(60, "tell", 5).does(60, "tell", 5).asks(60, "count", 2).refuses(FULL, "tell", 5).refuses(FULL, "tell", LEAST);
        run.does(NO, "check", 0, 1).asks(0, "count", 2).changes(1, "tell", 5);
        Run.full().refuses(FULL, "tell", 0).does(0, "check", 0, 30).changes(1, "tell", 0);
    }

    private static void anyNumberWaits() {
        // the numbers of refusals wait as any others do, and are no places
        Run run = new Run().does(0, "curve", 0).does(1, "keep");
        for (int v : new int[] {LEAST, MOST, -1, BAD, NO, NONE, 505}) {
            run.answersWithWaiting(1, "check", 0, 1).does(1, "tell", v).answersWithWaiting(1, "check", 0, 1).does(1, "check", 0, 1);
        }
        run.does(1, "tell", 0).does(2, "tell", 17).answersWithWaiting(0, "check", 0, 1).does(3, "tell", LEAST).answersWithWaiting(3, "check", 0, 1);
    }

    // ---- promise 40, "n (1 .. 30 ..)"

    private static void checkTakesOneToThirty() {
        // nine places are ON the first curve of the image, of which one was told
        Run run = Run.some();
        run.answersWithWaiting(0, "check", 0, 1).answersWithWaiting(3, "check", 0, 2).answersWithWaiting(3, "check", 0, 30);
        for (int n : new int[] {0, -1, 31, 32, LEAST, MOST}) {
            run.answersWithWaiting(BAD, "check", 0, n);
        }
        // of curves of the image
        run.answersWithWaiting(1, "check", 1, 1);
        for (int curve : new int[] {-1, 2, 5, 6, LEAST, MOST}) {
            run.answersWithWaiting(BAD, "check", curve, 1);
        }
        Run.full().answersWithWaiting(0, "check", 5, 30).answersWithWaiting(BAD, "check", 6, 30).answersWithWaiting(BAD, "check", 0, 31);
    }

    // "BAD: n; NO: there is no IMAGE; BAD: no such CURVE in it"
    private static void checkRefusedInOrder() {
        Run run = new Run().does(0, "curve", 0).does(1, "tell", 0).does(2, "tell", 17);
        run.answersWithWaiting(BAD, "check", 0, 0).answersWithWaiting(BAD, "check", 9, 31).answersWithWaiting(NO, "check", 0, 1);
        run.answersWithWaiting(NO, "check", 1, 1).answersWithWaiting(NO, "check", -1, 30);
        run.does(1, "keep").answersWithWaiting(0, "check", 0, 1).answersWithWaiting(BAD, "check", 1, 1).answersWithWaiting(BAD, "check", 0, 0);
        // a curve that came after the image is none of it
        run.does(1, "curve", 0).answersWithWaiting(BAD, "check", 1, 1).does(2, "keep").answersWithWaiting(0, "check", 1, 1);
        new Run().does(0, "keep").does(0, "curve", 0).answersWithWaiting(BAD, "check", 0, 1);
    }

    // "none do then, whatever is answered"
    private static void checkUsesUpWhatWaits() {
        int[][] given = {{0, 1}, {0, 2}, {0, 0}, {0, 31}, {9, 1}};
        int[] due = {0, 3, BAD, BAD, BAD};
        for (int n = 0; n < given.length; n++) {
            Run.some().does(due[n], "check", given[n]).asks(0, "count", 2).asks(1, "check", 0, 1).changes(1, "tell", 5);
        }
        Run run = new Run().does(1, "tell", 5).does(NO, "check", 0, 1).asks(0, "count", 2);
        run.asks(NO, "check", 0, 1);
    }

    /** What check answers of the first n places, after so many numbers. */
    private static void checked(long due, Run run, int n, int... told) {
        Run all = run;
        for (int k = 0; k < told.length; k++) {
            all.does(k + 1, "tell", told[k]);
        }
        all.answersWithWaiting(due, "check", 0, n).does(due, "check", 0, n);
    }

    // "of n (.. fewer, if there are not so many)"
    private static void checkOfAsManyAsThereAre() {
        // no place; one; three, each once
        Run none = new Run().draws(0, 0, 0, 1).does(1, "keep");
        checked(0, none, 1);
        checked(0, none, 30);
        checked(1, none, 1, 0);
        checked(1, none, 1, 505, 1);
        Run one = new Run().draws(0, 0, 20, 1, 2, 1).does(1, "keep");
        checked(0, one, 1, 505, 2);
        checked(0, one, 2, 505, 2);
        checked(0, one, 30, 505, 2);
        Run three = new Run().draws(0, 0, 1, 1, 10, -5).does(1, "keep");
        checked(0, three, 1, 400, 1);
        checked(0, three, 2, 400, 1, 505, 1);
        checked(0, three, 3, 400, 1, 505, 1, 610, 1);
        checked(0, three, 4, 400, 1, 505, 1, 610, 1);
        checked(0, three, 30, 400, 1, 505, 1, 610, 1);
    }

    // "1 and how many stand right ahead of the first that is not (or is missing, or one too many)"
    private static void checkTellsTheFirstFault() {
        Run three = new Run().draws(0, 0, 1, 1, 10, -5).does(1, "keep");
        int[] right = {400, 1, 505, 1, 610, 1};
        for (int n = 0; n < 6; n++) {
            int[] wrong = right.clone();
            wrong[n]++;
            checked(1 + n, three, 3, wrong);
            checked(1 + n, three, 3, java.util.Arrays.copyOf(right, n));
            int[] two = wrong.clone();
            two[5] = -1;
            checked(1 + n, three, 30, two);
        }
        checked(7, three, 3, 400, 1, 505, 1, 610, 1, 0);
        checked(7, three, 30, 400, 1, 505, 1, 610, 1, 710, 1);
        checked(5, three, 2, right);
        checked(3, three, 1, right);
        checked(1, three, 1);
        // the places in another order, and the numbers of one
        checked(1, three, 2, 505, 1, 400, 1);
        checked(1, three, 1, 1, 400);
    }

    private static void checkOfThirtyPlaces() {
        int[] told = new int[60];
        for (int n = 0; n < 30; n++) {
            told[2 * n] = n / 11 * 100 + n % 11;
            told[2 * n + 1] = 17;
        }
        Run run = new Run().does(0, "curve", 0).does(1, "keep");
        checked(0, run, 30, told);
        checked(59, run, 29, told);
        checked(60, run, 30, java.util.Arrays.copyOf(told, 59));
        Run other = new Run().does(0, "curve", 0).does(1, "keep");
        checked(59, other, 30, java.util.Arrays.copyOf(told, 58));
        checked(0, other, 29, java.util.Arrays.copyOf(told, 58));
        told[59] = 1;
        checked(60, other, 30, told);
    }

    // "of a CURVE (of THE IMAGE)": by its c, its KIND and its texts
    private static void checkOfTheImage() {
        Run run = new Run().draws(0, 0, 20, 1, 2, 1).does(1, "keep").does(1, "tell", 505).does(2, "tell", 2);
        run.does(0, "put", 0, 0, 7).answersWithWaiting(0, "check", 0, 3).does(0, "turns", 0, 5).answersWithWaiting(0, "check", 0, 3);
        run.tells(0, "term 1").answersWithWaiting(0, "check", 0, 3).tells(1, "mark 0").answersWithWaiting(0, "check", 0, 3);
        run.does(1, "keep").answersWithWaiting(1, "check", 0, 3);
        // its texts are those of the image; mark is none of THE PLACES TOLD
        Run two = new Run().does(0, "curve", 0).tells(0, "term i+j=2").tells(1, "mark 5").does(1, "keep").tells(2, "term 0");
        two.does(1, "tell", 505).does(2, "tell", 2).answersWithWaiting(0, "check", 0, 1).does(1, "keep").answersWithWaiting(1, "check", 0, 1);
        two.does(1, "check", 0, 1).does(1, "tell", 0).does(2, "tell", 17).answersWithWaiting(0, "check", 0, 1);
    }

    // ---- promise 41

    private static void keepCountsCurves() {
        Run run = new Run().does(0, "keep");
        for (int n = 0; n < 6; n++) {
            run.does(n, "curve", n).changes(n + 1, "keep").does(n + 1, "keep").asks(n + 1, "keep").asks(n + 1, "back");
        }
        new Run().changes(0, "keep");
    }

    // ---- promise 42, "NO: there is none"

    private static void backWithoutAnImage() {
        new Run().refuses(NO, "back").does(6, "deal", 6).refuses(NO, "back").does(0, "sheet", 0, 0, 0).refuses(NO, "back");
        new Run().does(0, "keep").asks(0, "back");
        new Run().does(0, "keep").does(6, "deal", 6).changes(0, "back");
    }

    // "AN IMAGE keeps all but SHEETS, SLOTS, numbers that wait, THE TAPE"
    private static void backToAllThatIsKept() {
        Run run = Run.some();
        Run kept = Run.some().does(2, "keep");
        kept.does(4, "put", 1, 0, 0).does(3, "turns", 1, 5).does(2, "curve", 1).does(5, "seed", 6).does(2, "text").tells(3, "mark 3");
        kept.does(2, "back").asks(2, "count", 0).asks(2, "count", 1).asks(5, "count", 4);
        kept.asks(4, "term", 1, 0, 0).asks(3, "told", 1, 0).asks(-7, "term", 1, 11, 0).refuses(BAD, "told", 2, 0);
        kept.asks(NONE, "why", 0).asks(0, "why", 1).asks(1, "why", 2).refuses(BAD, "textTold", 2, 0).asks(12, "all", 0, 2);
        // the image of some() is one of before it was changed
        run.changes(2, "back").does(2, "back").asks(0, "term", 1, 11, 0).asks(1, "count", 4).asks(2, "count", 0).asks(2, "count", 1);
        // room is as it was then
        Run.full().does(6, "back").refuses(FULL, "curve", 0).asks(14, "count", 1).asks(1, "count", 4);
        Run room = new Run().does(5, "deal", 5).does(5, "keep").does(5, "curve", 0).refuses(FULL, "curve", 0).does(5, "back").does(5, "curve", 3).refuses(FULL, "curve", 0);
        room.asks(3, "told", 5, 0);
    }

    private static void backLeavesTheRest() {
        Run run = Run.some();
        run.does(2, "back").asks(2, "count", 2).asks(8, "count", 3).shows(1, 0, 0).shows(99999, 1, 2).shows(Due.KIND, 1, 1).shows(INDEX, 2, 0).shows(NOTHING, 3, 0);
        run.asks(-9, "ask", 1, 0).asks(5, "item", 2, 0).asks(17, "rest", 3, 100).answersWithWaiting(0, "check", 0, 1).changes(2, "text");
        Run.full().does(6, "back").refuses(FULL, "tell", 0).refuses(FULL, "feed", 0, 0, 0).shows(-1, 0, 23).asks(-6, "ask", 0, 0);
        // what of these is gone is not brought back
        run.does(0, "sheet", 1, -1, 0).does(1, "lay", 1, 0, 0).does(0, "check", 0, 1).does(0, "trim", 0).does(2, "back");
        run.asks(0, "count", 2).asks(0, "count", 3).shows(NOTHING, 1, 0).refuses(NOTHING, "ask", 1, 0).asks(5, "item", 2, 0);
    }

    // "all can become as it is (again and again)"
    private static void backAgainAndAgain() {
        Run run = Run.some();
        for (int n = 0; n < 5; n++) {
            run.does(2, "back").asks(2, "back").asks(0, "term", 1, 11, 0).asks(1, "count", 4).asks(0, "why", 1).asks(NONE, "why", 0);
            run.does(0, "put", 1, 11, n + 1).does(1, "seed", n).does(0, "turns", 0, 4).does(2, "curve", n).tells(2, "term " + n);
            run.asks(2, "why", 0).asks(n + 1, "term", 1, 11, 0);
        }
    }

    private static void aLaterImageIsTheOne() {
        Run run = Run.some().does(2, "curve", 5).tells(2, "term 7").does(3, "keep").does(3, "curve", 0).does(-7, "put", 1, 11, 0).does(5, "seed", 0);
        run.does(3, "back").asks(3, "count", 0).asks(-7, "term", 1, 11, 0).asks(5, "count", 4).asks(2, "why", 0).asks(5, "told", 2, 0);
        // an image with less than the one before it
        Run less = new Run().does(6, "deal", 6).does(6, "keep").does(6, "back");
        less.asks(6, "count", 0);
        new Run().does(0, "keep").does(0, "curve", 0).does(1, "keep").does(1, "curve", 0).changes(1, "back");
    }

    // ---- promise 43

    private static void countTellsWhatItTakes() {
        new Run().argument(0, "count", 0).least(0, 0).most(4, 1).beyond(BAD);
        Run.some().argument(0, "count", 0).least(0, 2).most(4, 5).beyond(BAD);
        Run.some().asks(2, "count", 1).asks(2, "count", 2).asks(8, "count", 3);
        Run.full().argument(0, "count", 0).least(0, 6).most(4, -9).beyond(BAD);
        Run.full().asks(14, "count", 1).asks(60, "count", 2).asks(96, "count", 3);
        // z may be what a refusal is
        Run.some().does(5, "seed", BAD).asks(BAD, "count", 4).refuses(BAD, "count", 5);
    }
}
