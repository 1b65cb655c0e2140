/** Promises 39 to 43: tell, check, keep, back, count. */
public final class RowsTest {
    private static final int BAD = Due.BAD, NO = Due.NO, FULL = Due.FULL, NONE = Due.NONE, NOTHING = Due.NOTHING;

    public static void main(String[] args) {
        tell();
        check();
        checkOfTheImage();
        checkRefused();
        keepAndBack();
        back();
        count();
        Due.end();
    }

    private static void tell() {
        BentBranches x = new BentBranches();
        for (int n = 1; n <= 60; n++) {
            Due.is("tell " + n, x.tell(-n), n);
        }
        Due.is("one more", x.tell(0), FULL);
        Due.is("they wait", x.count(2), 60);
    }

    private static int checked(BentBranches x, int curve, int n, int... told) {
        for (int v : told) {
            x.tell(v);
        }
        int answer = x.check(curve, n);
        Due.is("none wait", x.count(2), 0);
        return answer;
    }

    private static void check() {
        BentBranches x = new BentBranches();
        // (x + 4) (x + 4) + y y, with one place, a knot; and y y (x - 5) with many
        Due.curve(x, 0, 0, 16, 10, 8, 20, 1, 2, 1);
        x.curve(0);
        Due.curve(x, 0, 0, 1);
        x.keep();
        Due.is("the only place", checked(x, 0, 1, 105, 2), 0);
        Due.is("fewer than n", checked(x, 0, 30, 105, 2), 0);
        Due.is("the first is not", checked(x, 0, 1, 106, 2), 1);
        Due.is("the second is not", checked(x, 0, 1, 105, 1), 2);
        Due.is("the second is missing", checked(x, 0, 1, 105), 2);
        Due.is("all missing", checked(x, 0, 1), 1);
        Due.is("one too many", checked(x, 0, 1, 105, 2, 7), 3);
        Due.is("two too many", checked(x, 0, 1, 105, 2, 7, 8), 3);
        Due.is("of none: nothing", checked(x, 2, 5), 0);
        Due.is("of none: one too many", checked(x, 2, 5, 0), 1);
        Due.is("of all, two", checked(x, 1, 2, 0, 17, 1, 17), 0);
        Due.is("of all, three wanted", checked(x, 1, 3, 0, 17, 1, 17), 5);
        Due.is("of all, one wanted", checked(x, 1, 1, 0, 17, 1, 17), 3);
        // y - 5x, with three places, each once
        Due.curve(x, 0, 1, 1, 10, -5);
        x.keep();
        Due.is("plain places", checked(x, 3, 30, 400, 1, 505, 1, 610, 1), 0);
        Due.is("plain places, the first two", checked(x, 3, 2, 400, 1, 505, 1), 0);
        Due.is("plain places, one is missing", checked(x, 3, 30, 400, 1, 505, 1), 5);
        int[] thirty = new int[60];
        for (int n = 0; n < 30; n++) {
            thirty[2 * n] = n / 11 * 100 + n % 11;
            thirty[2 * n + 1] = 17;
        }
        Due.is("thirty", checked(x, 1, 30, thirty), 0);
        Due.is("thirty, 29 wanted", checked(x, 1, 29, thirty), 59);
        thirty[59] = 16;
        Due.is("thirty, the last is not", checked(x, 1, 30, thirty), 60);
    }

    private static void checkOfTheImage() {
        BentBranches x = new BentBranches();
        Due.curve(x, 0, 20, 1, 2, 1);
        x.keep();
        x.put(0, 0, 1);
        x.turns(0, 5);
        Due.curve(x, 0);
        Due.text(x, "term 0");
        Due.is("of THE IMAGE", checked(x, 0, 3, 505, 2), 0);
        Due.is("no such curve in it", checked(x, 1, 3, 0, 17), BAD);
        x.keep();
        Due.is("with its text", checked(x, 0, 1, 0, 17), 0);
        x.back();
        Due.text(x, "term c");
        Due.is("with its text still", checked(x, 0, 1, 0, 17), 0);
    }

    private static void checkRefused() {
        BentBranches x = new BentBranches();
        Due.is("n 0, ahead of no IMAGE", checked(x, 9, 0, 1, 2), BAD);
        Due.is("n 31", checked(x, 0, 31, 1), BAD);
        Due.is("no IMAGE, ahead of no curve", checked(x, 9, 1, 1), NO);
        x.keep();
        Due.is("no curve", checked(x, 0, 30, 1), BAD);
        Due.is("curve -1", checked(x, -1, 30, 1), BAD);
    }

    private static void keepAndBack() {
        BentBranches x = new BentBranches();
        Due.curve(x, 3, 0, 5);
        Due.curve(x, 2, 11, -5);
        Due.text(x, "mark 3");
        x.seed(77);
        Due.is("keep", x.keep(), 2);
        x.put(0, 0, 6);
        x.turns(0, 1);
        x.deal(3);
        Due.text(x, "mark 4");
        Due.text(x, "term 1");
        for (int turn = 0; turn < 2; turn++) {
            Due.is("back", x.back(), 2);
            Due.is("curves", x.count(0), 2);
            Due.is("texts", x.count(1), 1);
            Due.is("z", x.count(4), 77);
            Due.is("c", x.term(0, 0, 0), 5);
            Due.is("kind", x.told(0, 0), 3);
            Due.is("c of the other", x.term(1, 11, 0), -5);
            Due.is("why(2)", x.why(2), 0);
            Due.is("why(0)", x.why(0), NONE);
            Due.is("no text 1", x.textTold(1, 0), BAD);
            Due.is("no curve 2", x.told(2, 0), BAD);
            // What comes after an image does not change it.
            x.put(1, 11, turn + 1);
            Due.is("a text in the place of another", Due.text(x, "slope t"), 1);
            x.seed(turn);
        }
        x.keep();
        x.put(1, 11, 50);
        x.back();
        Due.is("the later image", x.term(1, 11, 0), 2);
        Due.is("its texts", x.why(1), 1);
        Due.is("its z", x.count(4), 1);
    }

    private static void back() {
        BentBranches x = new BentBranches();
        x.curve(0);
        x.sheet(0, 0, 2);
        x.lay(0, 3, 5);
        x.tell(1);
        x.feed(1, 2, 3);
        Due.is("no IMAGE", x.back(), NO);
        x.keep();
        x.mark(0, 1, 9);
        x.sheet(1, 1, 1);
        x.lay(0, 2, 0);
        x.tell(2);
        x.feed(1, 2, 3);
        Due.is("back", x.back(), 1);
        Due.is("numbers that wait are not kept", x.count(2), 2);
        Due.is("THE TAPE is not kept", x.count(3), 24);
        Due.is("SLOTS are not kept", x.item(0, 1), 9);
        Due.is("SHEETS are not kept", x.mark(1, 0, 1), 1);
        x.sheet(1, -1, 0);
        x.back();
        Due.is("SHEETS are not kept", x.mark(1, 0, 1), NOTHING);
        // An image without curves is one, too.
        BentBranches y = new BentBranches();
        Due.is("keep of none", y.keep(), 0);
        y.deal(6);
        Due.is("back to none", y.back(), 0);
        Due.is("curves", y.count(0), 0);
        Due.is("z", y.count(4), 1);
    }

    private static void count() {
        BentBranches x = new BentBranches();
        x.deal(4);
        Due.text(x, "mark 1");
        Due.text(x, "mark 2");
        x.tell(5);
        x.tell(5);
        x.tell(5);
        x.feed(0, 0, 0);
        x.seed(-12);
        int[] due = {4, 2, 3, 12, -12};
        for (int what = 0; what < 5; what++) {
            Due.is("count(" + what + ")", x.count(what), due[what]);
        }
        Due.is("count(5)", x.count(5), BAD);
        Due.is("count(-1)", x.count(-1), BAD);
    }
}
