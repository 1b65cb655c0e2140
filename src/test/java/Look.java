import java.util.ArrayList;
import java.util.List;

/** All that can be seen of an object, a row for each call; what a look uses up is looked at last. */
final class Look {
    private static final int[] PLACES = {0, 1, 2, 3, 4, 10, 11, 12, 13, 20, 21, 22, 30, 31, 40};
    private final BentBranches object;
    private final List<String> rows = new ArrayList<>();

    private Look(BentBranches object) {
        this.object = object;
    }

    private long see(String name, int... given) {
        long answer = Run.call(object, name, given);
        StringBuilder row = new StringBuilder(name);
        for (int v : given) {
            row.append(' ').append(v);
        }
        rows.add(row.append(": ").append(answer).toString());
        return answer;
    }

    /** What is now; the object is of no use afterwards. */
    static List<String> now(BentBranches x) {
        Look look = new Look(x);
        look.see("count", 2);
        look.see("count", 3);
        look.curvesAndTexts();
        for (int slot = 0; slot < 5; slot++) {
            look.slot(slot);
        }
        look.sheets();
        look.see("check", 0, Math.max(1, x.count(2) / 2));
        look.see("text");
        look.see("why", 0);
        look.see("value", 0, 2, 3);
        look.see("all", 0, 2);
        return look.rows;
    }

    /** What THE IMAGE holds; the object is of no use afterwards. */
    static List<String> image(BentBranches x) {
        Look look = new Look(x);
        if (look.see("back") >= 0) {
            look.curvesAndTexts();
        }
        return look.rows;
    }

    private void curvesAndTexts() {
        see("count", 4);
        long curves = see("count", 0);
        for (int curve = 0; curve < curves; curve++) {
            see("told", curve, 0);
            for (int at : PLACES) {
                see("term", curve, at, 0);
            }
        }
        long texts = see("count", 1);
        for (int text = 0; text < texts; text++) {
            see("textTold", text, 0);
            see("textTold", text, 1);
        }
        for (int key = 0; key < 3; key++) {
            see("why", key);
        }
        see("value", 0, 2, 3);
        see("slopes", 0, 505);
        see("tree", 0, 505, 3, 2);
        see("all", 0, 2);
    }

    private void slot(int slot) {
        long number = see("rest", slot, 1000003);
        boolean curve = false;
        for (int kind = 0; kind < 6; kind++) {
            curve |= see("ask", slot, kind) != Due.KIND;
        }
        if (number == Due.KIND && !curve) {
            row(slot);
        }
    }

    private void row(int slot) {
        int place = 0;
        while (place < 25 && see("item", slot, place) != Due.INDEX) {
            place++;
        }
    }

    private void sheets() {
        for (int sheet = 0; sheet < 4; sheet++) {
            if (see("lay", 4, 2, sheet) != Due.NOTHING) {
                row(4);
            }
        }
        for (int sheet = 1; sheet < 4; sheet++) {
            see("copy", 0, 0, sheet, 0, 0);
            see("mark", sheet, 0, Due.NONE);
        }
        see("mark", 0, 0, Due.NONE);
    }
}
