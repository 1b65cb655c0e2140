import java.util.Arrays;

/** Branches of a bent line. What each call answers stands in DOC.md, promise by promise. */
public final class BentBranches {
    public static final int BAD = -1000000001, NO = -1000000002, FULL = -1000000003, NONE = -1000000005, NOTHING = -1000000011, KIND = -1000000012, INDEX = -1000000013, SIZE = -1000000014;

    private static final int MOST_CURVES = 6, MOST_TEXTS = 14, MOST_BYTES = 96, MOST_WAITING = 60;
    private static final int MOST_SHEETS = 4, MOST_SLOTS = 5, MOST_PLACES = 24, MOST_TOLD = 30;
    private static final int TOP = 4, NUMBERS = 15, BOUND = 99, FLOAT_BOUND = 99999, VALUE_BOUND = 9;
    private static final int REACH = 5, SIDE = 11, FIELD = 121, UPRIGHT = 6, DEEPEST_TREE = 3;
    private static final int PLAIN = 0, TURNED = 1, MIRRORED = 2, OPPOSITE = 3, DOUBLED = 4, FLAT = 5;
    private static final int TERM_KEY = 0, SLOPE_KEY = 1, MARK_KEY = 2;
    private static final int MISSING = -1, SHORTS = 0, FLOATS = 1;
    private static final int HOLDS_NOTHING = 0, HOLDS_CURVE = 1, HOLDS_SHEET = 2, HOLDS_NUMBER = 3;
    private static final int[] FIRST_OF_X = {0, 5, 9, 12, 14};

    private final World now = new World();
    private final World image = new World();
    private final View view = new View(now);
    private final View imageView = new View(image);
    private final Tape tape = new Tape();
    private final Row[] sheets = new Row[MOST_SHEETS];
    private final Slot[] slots = new Slot[MOST_SLOTS];
    private final int[] waiting = new int[MOST_WAITING];
    private int waitingCount = 0;
    private boolean imageKept = false;

    public BentBranches() {
        for (int n = 0; n < sheets.length; n++) {
            sheets[n] = new Row();
        }
        for (int n = 0; n < slots.length; n++) {
            slots[n] = new Slot();
        }
    }

    // ---- curves

    public int curve(int kind) {
        if (!isKind(kind)) {
            return BAD;
        }
        Curve fresh = now.addCurve(kind);
        return fresh == null ? FULL : now.curveCount - 1;
    }

    public int put(int curve, int at, int v) {
        Curve line = now.curveOf(curve);
        int index = indexOf(at / 10, at % 10);
        if (line == null || index < 0 || v < -BOUND || v > BOUND) {
            return BAD;
        }
        int before = line.numberAt(index);
        line.setNumber(index, v);
        return before;
    }

    public int term(int curve, int at, int what) {
        Curve line = now.curveOf(curve);
        int i = at / 10;
        int j = at % 10;
        int index = indexOf(i, j);
        if (line == null || index < 0 || what < 0 || what > 1) {
            return BAD;
        }
        return what == 0 ? line.numberAt(index) : now.termAt(line, i, j);
    }

    public int told(int curve, int what) {
        Curve line = now.curveOf(curve);
        if (line == null || what < 0 || what > 3) {
            return BAD;
        }
        if (what == 0) {
            return line.kind;
        }
        if (what == 2) {
            return line.worth();
        }
        view.look(line);
        return what == 1 ? view.degree() : view.termsNotZero();
    }

    public int as(int curve, int kind) {
        Curve line = now.curveOf(curve);
        if (line == null || !isKind(kind)) {
            return BAD;
        }
        return line.isOf(kind) ? line.number(0, 0) : KIND;
    }

    public int turns(int curve, int kind) {
        Curve line = now.curveOf(curve);
        if (line == null || !isKind(kind)) {
            return BAD;
        }
        int before = line.kind;
        line.kind = kind;
        return before;
    }

    public int mix(int curve, int one, int other, int how) {
        Curve line = now.curveOf(curve);
        Curve first = now.curveOf(one);
        Curve second = now.curveOf(other);
        if (line == null || first == null || second == null || how < 0 || how > 1) {
            return BAD;
        }
        int sign = how == 0 ? 1 : -1;
        for (int n = 0; n < NUMBERS; n++) {
            line.setNumber(n, held(second.numberAt(n) + sign * first.numberAt(n)));
        }
        return line.notZero();
    }

    public int deal(int n) {
        if (n < 1 || n > MOST_CURVES) {
            return BAD;
        }
        int came = 0;
        for (int k = 0; k < n; k++) {
            Curve fresh = now.addCurve(PLAIN);
            if (fresh != null) {
                now.drawNumbers(fresh);
                came++;
            }
        }
        return came;
    }

    public int seed(int v) {
        int before = now.z;
        now.z = v;
        return before;
    }

    // ---- places

    public long value(int curve, int x, int y) {
        Curve line = now.curveOf(curve);
        if (line == null || x < -VALUE_BOUND || x > VALUE_BOUND || y < -VALUE_BOUND || y > VALUE_BOUND) {
            return BAD;
        }
        view.look(line);
        return view.valueAt(x, y);
    }

    public int times(int curve, int place) {
        Shape shape = shapeAt(curve, place);
        return shape == null ? BAD : shape.least();
    }

    public long shape(int curve, int place, int at) {
        Shape shape = shapeAt(curve, place);
        int i = at / 10;
        int j = at % 10;
        return shape == null || !Shape.has(i, j) ? BAD : shape.number(i, j);
    }

    public long lowest(int curve, int place, int k) {
        Shape shape = shapeAt(curve, place);
        if (shape == null || k < 0 || k > TOP) {
            return BAD;
        }
        int m = shape.least();
        return Shape.branches(m) ? shape.lowestOf(m, k) : NO;
    }

    public int slopes(int curve, int place) {
        Shape shape = shapeAt(curve, place);
        if (shape == null) {
            return BAD;
        }
        int m = shape.least();
        return Shape.branches(m) ? view.slopeBits(shape, m) : NO;
    }

    public int often(int curve, int place, int t) {
        Shape shape = shapeAt(curve, place);
        if (shape == null || !isSlope(t)) {
            return BAD;
        }
        int m = shape.least();
        return Shape.branches(m) ? view.oftenOf(shape, m, t) : NO;
    }

    public int blown(int curve, int place, int t, int u) {
        Shape shape = shapeAt(curve, place);
        if (shape == null || !isSlope(t) || (u != UPRIGHT && !isSlope(u))) {
            return BAD;
        }
        Shape last = view.blow(1, t);
        if (last != null && u != UPRIGHT) {
            last = view.blow(2, u);
        }
        return last == null ? NO : last.least();
    }

    public int tree(int curve, int place, int n, int what) {
        Shape shape = shapeAt(curve, place);
        if (shape == null || n < 1 || n > DEEPEST_TREE || what < 0 || what > 2) {
            return BAD;
        }
        view.growTree(n);
        if (what == 0) {
            return view.treeShapes;
        }
        return what == 1 ? view.treeBelongs : view.treeEnds;
    }

    public int corner(int curve, int place, int j) {
        Shape shape = shapeAt(curve, place);
        if (shape == null || j < 0 || j > TOP) {
            return BAD;
        }
        int i = shape.leastX(j);
        return i == Shape.EMPTY ? NONE : i;
    }

    public int power(int curve, int place, int what) {
        Shape shape = shapeAt(curve, place);
        if (shape == null || what < 0 || what > 1) {
            return BAD;
        }
        int first = shape.firstCorner();
        int second = shape.steepestFrom(first);
        if (second < 0) {
            return NONE;
        }
        int above = shape.leastX(first) - shape.leastX(second);
        int below = second - first;
        int shared = greatestShared(Math.abs(above), below);
        if (shared < 1) {
            return NONE;
        }
        return what == 0 ? above / shared : below / shared;
    }

    // ---- lines, the whole curve

    public int line(int curve, int place, int t) {
        Shape shape = shapeAt(curve, place);
        if (shape == null || (t != UPRIGHT && !isSlope(t))) {
            return BAD;
        }
        return t == UPRIGHT ? shape.holdsToUpright() : shape.holdsTo(t);
    }

    public int all(int curve, int what) {
        Curve line = now.curveOf(curve);
        if (line == null || what < 0 || what > 2) {
            return BAD;
        }
        view.walk(line);
        return what == 2 ? view.sumOfMarks() : view.placesWith(what == 0 ? 1 : 2);
    }

    public int on(int curve, int i) {
        Curve line = now.curveOf(curve);
        if (line == null || i < 0) {
            return BAD;
        }
        view.walk(line);
        return view.placeOn(i);
    }

    public int genus(int curve) {
        Curve line = now.curveOf(curve);
        if (line == null) {
            return BAD;
        }
        view.walk(line);
        int degree = view.degree();
        return degree < 0 ? NO : (degree - 1) * (degree - 2) / 2 - view.belongsOfKnots();
    }

    public int both(int one, int other) {
        Curve first = now.curveOf(one);
        Curve second = now.curveOf(other);
        if (first == null || second == null) {
            return BAD;
        }
        view.walk(first);
        view.setAside();
        view.walk(second);
        return view.placesOnBoth();
    }

    // ---- texts

    public int feed(int a, int b, int c) {
        if (tape.length > MOST_BYTES - 12) {
            return FULL;
        }
        tape.addNumber(a);
        tape.addNumber(b);
        tape.addNumber(c);
        return tape.length;
    }

    public int trim(int n) {
        if (n < 0 || n > tape.length) {
            return BAD;
        }
        tape.length = n;
        return n;
    }

    public int text() {
        int fault = tape.read();
        tape.length = 0;
        if (fault >= 0) {
            return -100 - fault;
        }
        if (now.lawCount >= MOST_TEXTS) {
            return FULL;
        }
        return now.addLaw(tape.law());
    }

    public int textTold(int text, int what) {
        Law law = now.lawAt(text);
        if (law == null || what < 0 || what > 1) {
            return BAD;
        }
        return what == 0 ? law.key : law.leaves;
    }

    public int why(int key) {
        if (key < TERM_KEY || key > MARK_KEY) {
            return BAD;
        }
        int last = now.lastLawOf(key);
        return last < 0 ? NONE : last;
    }

    // ---- sheets, slots

    public int sheet(int sheet, int sort, int n) {
        Row row = sheetOf(sheet);
        if (row == null || sort < MISSING || sort > FLOATS) {
            return BAD;
        }
        if (sort == MISSING) {
            row.becomesEmpty(MISSING, 0);
            return 0;
        }
        if (n > MOST_PLACES) {
            return BAD;
        }
        if (n < 0) {
            return SIZE;
        }
        row.becomesEmpty(sort, n);
        return n;
    }

    public int mark(int sheet, int place, int v) {
        Row row = sheetOf(sheet);
        if (row == null) {
            return BAD;
        }
        if (row.sort == MISSING) {
            return NOTHING;
        }
        if (!row.hasPlace(place)) {
            return INDEX;
        }
        if (row.sort == SHORTS) {
            if (v == NONE) {
                return KIND;
            }
            row.setPlace(place, (short) v);
            return 1;
        }
        if (v != NONE && (v < -FLOAT_BOUND || v > FLOAT_BOUND)) {
            return BAD;
        }
        row.setPlace(place, v);
        return 1;
    }

    public int pour(int sheet, int curve) {
        Row row = sheetOf(sheet);
        Curve line = now.curveOf(curve);
        if (row == null || line == null) {
            return BAD;
        }
        if (row.sort == MISSING) {
            return NOTHING;
        }
        int changed = 0;
        for (int n = 0; n < NUMBERS && n < row.size; n++) {
            int v = row.placeAt(n);
            if (v != NONE && held(v) != line.numberAt(n)) {
                line.setNumber(n, held(v));
                changed++;
            }
        }
        return changed;
    }

    public int copy(int from, int place, int to, int at, int many) {
        Row source = sheetOf(from);
        Row target = sheetOf(to);
        if (source == null || target == null) {
            return BAD;
        }
        if (source.sort == MISSING || target.sort == MISSING) {
            return NOTHING;
        }
        if (source.sort != target.sort) {
            return KIND;
        }
        if (!source.hasRun(place, many) || !target.hasRun(at, many)) {
            return INDEX;
        }
        System.arraycopy(source.places, place, target.places, at, many);
        return many;
    }

    public int lay(int slot, int thing, int k) {
        Slot hold = slotOf(slot);
        if (hold == null || thing < HOLDS_NOTHING || thing > HOLDS_NUMBER) {
            return BAD;
        }
        if (thing == HOLDS_CURVE) {
            Curve line = now.curveOf(k);
            if (line == null) {
                return BAD;
            }
            hold.curve.becomes(line);
        } else if (thing == HOLDS_SHEET) {
            Row row = sheetOf(k);
            if (row == null) {
                return BAD;
            }
            if (row.sort == MISSING) {
                return NOTHING;
            }
            hold.row.becomes(row);
        } else if (thing == HOLDS_NUMBER) {
            hold.number = k;
        }
        int before = hold.thing;
        hold.thing = thing;
        return before;
    }

    public int ask(int slot, int kind) {
        Slot hold = slotOf(slot);
        if (hold == null || !isKind(kind)) {
            return BAD;
        }
        if (hold.thing == HOLDS_NOTHING) {
            return NOTHING;
        }
        return hold.thing == HOLDS_CURVE && hold.curve.isOf(kind) ? hold.curve.worth() : KIND;
    }

    public int item(int slot, int place) {
        Slot hold = slotOf(slot);
        if (hold == null) {
            return BAD;
        }
        if (hold.thing == HOLDS_NOTHING) {
            return NOTHING;
        }
        if (hold.thing != HOLDS_SHEET) {
            return KIND;
        }
        if (!hold.row.hasPlace(place)) {
            return INDEX;
        }
        int v = hold.row.placeAt(place);
        return v == NONE ? KIND : v;
    }

    public int rest(int slot, int n) {
        Slot hold = slotOf(slot);
        if (hold == null) {
            return BAD;
        }
        if (hold.thing == HOLDS_NOTHING) {
            return NOTHING;
        }
        if (hold.thing != HOLDS_NUMBER) {
            return KIND;
        }
        return n == 0 ? NO : hold.number % n;
    }

    // ---- rows, images

    public int tell(int v) {
        if (waitingCount < 0 || waitingCount >= waiting.length) {
            return FULL;
        }
        waiting[waitingCount] = v;
        waitingCount++;
        return waitingCount;
    }

    public int check(int curve, int n) {
        int waited = waitingCount;
        waitingCount = 0;
        if (n < 1 || n > MOST_TOLD) {
            return BAD;
        }
        if (!imageKept) {
            return NO;
        }
        Curve line = image.curveOf(curve);
        if (line == null) {
            return BAD;
        }
        imageView.walk(line);
        return imageView.compareTold(waiting, waited, n);
    }

    public int keep() {
        image.becomes(now);
        imageKept = true;
        return image.curveCount;
    }

    public int back() {
        if (!imageKept) {
            return NO;
        }
        now.becomes(image);
        return now.curveCount;
    }

    public int count(int what) {
        switch (what) {
            case 0: return now.curveCount;
            case 1: return now.lawCount;
            case 2: return waitingCount;
            case 3: return tape.length;
            case 4: return now.z;
            default: return BAD;
        }
    }

    // ---- what several calls need

    /** The SHAPE at a place as it is told; null where the curve or the place is BAD. */
    private Shape shapeAt(int curve, int place) {
        Curve line = now.curveOf(curve);
        if (line == null || place < 0 || place / 100 >= SIDE || place % 100 >= SIDE) {
            return null;
        }
        view.look(line);
        return view.stand(place / 100 - REACH, place % 100 - REACH);
    }

    private Row sheetOf(int sheet) {
        return sheet < 0 || sheet >= sheets.length ? null : sheets[sheet];
    }

    private Slot slotOf(int slot) {
        return slot < 0 || slot >= slots.length ? null : slots[slot];
    }

    private static boolean isKind(int kind) {
        return kind >= PLAIN && kind <= FLAT;
    }

    private static boolean isSlope(int t) {
        return t >= -REACH && t <= REACH;
    }

    private static int held(int v) {
        return Math.max(-BOUND, Math.min(BOUND, v));
    }

    /** Where the number of x to the i, y to the j stands in a row of 15; -1: there is none. */
    private static int indexOf(int i, int j) {
        if (i < 0 || i >= FIRST_OF_X.length || j < 0 || j > TOP - i) {
            return -1;
        }
        return FIRST_OF_X[i] + j;
    }

    private static int greatestShared(int a, int b) {
        int great = a;
        int small = b;
        for (int n = 0; n < 100 && small != 0; n++) {
            int left = great % small;
            great = small;
            small = left;
        }
        return great;
    }

    /** The numbers c of a curve, by i, then by j, and its KIND. */
    private static final class Curve {
        int kind = PLAIN;
        private final int[] numbers = new int[NUMBERS];

        int numberAt(int index) {
            return index < 0 || index >= numbers.length ? 0 : numbers[index];
        }

        int number(int i, int j) {
            return numberAt(indexOf(i, j));
        }

        void setNumber(int index, int v) {
            if (index >= 0 && index < numbers.length) {
                numbers[index] = v;
            }
        }

        void becomesZero(int newKind) {
            kind = newKind;
            Arrays.fill(numbers, 0);
        }

        void becomes(Curve other) {
            kind = other.kind;
            System.arraycopy(other.numbers, 0, numbers, 0, NUMBERS);
        }

        int notZero() {
            int found = 0;
            for (int n = 0; n < numbers.length; n++) {
                if (numbers[n] != 0) {
                    found++;
                }
            }
            return found;
        }

        /** Whether it is of a KIND or of one under it. */
        boolean isOf(int wanted) {
            if (wanted == PLAIN || wanted == kind) {
                return true;
            }
            return wanted == TURNED && kind == OPPOSITE || wanted == MIRRORED && kind == DOUBLED;
        }

        int worth() {
            switch (kind) {
                case TURNED: return notZero() + number(1, 0);
                case OPPOSITE: return -(notZero() + number(1, 0));
                case MIRRORED: return 2 * notZero();
                case DOUBLED: return 2 * notZero() + 1;
                case FLAT: return number(0, 0);
                default: return notZero();
            }
        }

        /** By how much its KIND makes a TERM of a plain curve's one. */
        int factor(int i, int j) {
            switch (kind) {
                case OPPOSITE: return -1;
                case MIRRORED: return i % 2 == 0 ? 1 : -1;
                case DOUBLED: return i % 2 == 0 ? 2 : -2;
                case FLAT: return j == 0 ? 1 : 0;
                default: return 1;
            }
        }
    }

    /** All that an image keeps: curves, texts and z. */
    private static final class World {
        int curveCount = 0;
        int lawCount = 0;
        int z = 1;
        private final Curve[] curves = new Curve[MOST_CURVES];
        private final Law[] laws = new Law[MOST_TEXTS];
        private final int[] stack = new int[MOST_BYTES];

        World() {
            for (int n = 0; n < curves.length; n++) {
                curves[n] = new Curve();
            }
        }

        void becomes(World other) {
            for (int n = 0; n < curves.length && n < other.curves.length; n++) {
                curves[n].becomes(other.curves[n]);
            }
            // A law never changes, so both worlds may hold the same one.
            for (int n = 0; n < laws.length && n < other.laws.length; n++) {
                laws[n] = other.laws[n];
            }
            curveCount = other.curveCount;
            lawCount = other.lawCount;
            z = other.z;
        }

        Curve curveOf(int n) {
            return n < 0 || n >= curveCount || n >= curves.length ? null : curves[n];
        }

        /** One more curve of zeros; null: there is no room. */
        Curve addCurve(int kind) {
            if (curveCount < 0 || curveCount >= curves.length) {
                return null;
            }
            Curve fresh = curves[curveCount];
            fresh.becomesZero(kind);
            curveCount++;
            return fresh;
        }

        void drawNumbers(Curve curve) {
            for (int n = 0; n < NUMBERS; n++) {
                z = z * 1103515245 + 12345;
                curve.setNumber(n, (z >>> 8) % 7 - 3);
            }
        }

        Law lawAt(int n) {
            return n < 0 || n >= lawCount || n >= laws.length ? null : laws[n];
        }

        int lastLawOf(int key) {
            for (int n = lawCount - 1; n >= 0; n--) {
                Law law = lawAt(n);
                if (law != null && law.key == key) {
                    return n;
                }
            }
            return -1;
        }

        int addLaw(Law law) {
            if (lawCount < 0 || lawCount >= laws.length) {
                return FULL;
            }
            laws[lawCount] = law;
            lawCount++;
            return lawCount - 1;
        }

        /** What the text that counts for a key gives; without one: what is told last here. */
        int lawGives(int key, int first, int second, int third, int without) {
            Law law = lawAt(lastLawOf(key));
            return law == null ? without : law.gives(first, second, third, stack);
        }

        int termAt(Curve curve, int i, int j) {
            boolean turned = curve.isOf(TURNED);
            int a = turned ? j : i;
            int b = turned ? i : j;
            return curve.factor(i, j) * held(lawGives(TERM_KEY, a, b, curve.number(a, b), curve.number(a, b)));
        }
    }

    /** Numbers of x to the i (0 .. 16) times y to the j (0 .. 4). */
    private static final class Shape {
        static final int MOST_X = 16, EMPTY = 17;
        private static final int ROW = 5;
        private final long[] numbers = new long[(MOST_X + 1) * ROW];

        static boolean has(int i, int j) {
            return i >= 0 && i <= MOST_X && j >= 0 && j <= TOP;
        }

        /** Whether one with these TIMES has LOWEST numbers, and can be blown. */
        static boolean branches(int m) {
            return m >= 1 && m <= MOST_X;
        }

        long number(int i, int j) {
            int index = j < 0 || j > TOP ? -1 : i * ROW + j;
            return index < 0 || index >= numbers.length ? 0 : numbers[index];
        }

        void add(int i, int j, long v) {
            int index = j < 0 || j > TOP ? -1 : i * ROW + j;
            if (index >= 0 && index < numbers.length) {
                numbers[index] += v;
            }
        }

        void clear() {
            Arrays.fill(numbers, 0L);
        }

        /** x becomes x and dx; only numbers of i and j up to 4 together may be there. */
        void moveX(int dx) {
            for (int low = 0; low < TOP; low++) {
                for (int i = TOP - 1; i >= low; i--) {
                    for (int j = 0; j < TOP - i; j++) {
                        add(i, j, dx * number(i + 1, j));
                    }
                }
            }
        }

        /** y becomes y and dy; only numbers of i up to lastX may be there. */
        void moveY(int dy, int lastX) {
            for (int low = 0; low < TOP; low++) {
                for (int j = TOP - 1; j >= low; j--) {
                    for (int i = 0; i <= lastX; i++) {
                        add(i, j, dy * number(i, j + 1));
                    }
                }
            }
        }

        /** TIMES. */
        int least() {
            for (int m = 0; m <= MOST_X; m++) {
                for (int j = 0; j <= TOP; j++) {
                    if (number(m - j, j) != 0) {
                        return m;
                    }
                }
            }
            return EMPTY;
        }

        long lowestOf(int m, int k) {
            return number(m - k, k);
        }

        /** All numbers of degree d together, with x, t times x in place of x, y. */
        long sumOnLine(int d, int t) {
            long sum = 0;
            for (int j = TOP; j >= 0; j--) {
                sum = sum * t + number(d - j, j);
            }
            return sum;
        }

        void blowInto(Shape next, int t, int m) {
            next.clear();
            for (int i = 0; i <= MOST_X; i++) {
                for (int j = 0; j <= TOP; j++) {
                    next.add(i + j - m, j, number(i, j));
                }
            }
            next.moveY(t, MOST_X);
        }

        /** The least i with a number, of a j. */
        int leastX(int j) {
            for (int i = 0; i <= MOST_X; i++) {
                if (number(i, j) != 0) {
                    return i;
                }
            }
            return EMPTY;
        }

        /** The least j with a corner; -1: there is none. */
        int firstCorner() {
            for (int j = 0; j <= TOP; j++) {
                if (leastX(j) != EMPTY) {
                    return j;
                }
            }
            return -1;
        }

        /** The k that makes FIRST POWER with the first corner; -1: there is none. */
        int steepestFrom(int first) {
            int best = -1;
            int bestAbove = 0;
            for (int k = first + 1; first >= 0 && k <= TOP; k++) {
                int above = leastX(first) - leastX(k);
                boolean there = leastX(k) != EMPTY;
                if (there && (best < 0 || above * (best - first) >= bestAbove * (k - first))) {
                    best = k;
                    bestAbove = above;
                }
            }
            return best;
        }

        int holdsTo(int t) {
            for (int d = 0; d <= MOST_X + TOP; d++) {
                if (sumOnLine(d, t) != 0) {
                    return d;
                }
            }
            return -1;
        }

        int holdsToUpright() {
            for (int j = 0; j <= TOP; j++) {
                if (number(0, j) != 0) {
                    return j;
                }
            }
            return -1;
        }
    }

    /** A curve looked at in a world: its TERMS, the SHAPES at a place, TIMES of all places. */
    private static final class View {
        int treeShapes = 0;
        int treeBelongs = 0;
        int treeEnds = 0;
        private final World world;
        private final int[] terms = new int[NUMBERS];
        private final int[] times = new int[FIELD];
        private final int[] earlier = new int[FIELD];
        private final Shape[] shapes = new Shape[DEEPEST_TREE];
        private final long[] powers = new long[TOP + 1];

        View(World world) {
            this.world = world;
            for (int n = 0; n < shapes.length; n++) {
                shapes[n] = new Shape();
            }
        }

        void look(Curve curve) {
            for (int i = 0; i <= TOP; i++) {
                for (int j = 0; j <= TOP - i; j++) {
                    setTerm(indexOf(i, j), world.termAt(curve, i, j));
                }
            }
        }

        private void setTerm(int index, int v) {
            if (index >= 0 && index < terms.length) {
                terms[index] = v;
            }
        }

        private int termOf(int i, int j) {
            int index = indexOf(i, j);
            return index < 0 || index >= terms.length ? 0 : terms[index];
        }

        int degree() {
            int degree = -1;
            for (int i = 0; i <= TOP; i++) {
                for (int j = 0; j <= TOP - i; j++) {
                    if (termOf(i, j) != 0) {
                        degree = Math.max(degree, i + j);
                    }
                }
            }
            return degree;
        }

        int termsNotZero() {
            int found = 0;
            for (int n = 0; n < terms.length; n++) {
                if (terms[n] != 0) {
                    found++;
                }
            }
            return found;
        }

        long valueAt(int x, int y) {
            long sum = 0;
            for (int i = TOP; i >= 0; i--) {
                long ofY = 0;
                for (int j = TOP - i; j >= 0; j--) {
                    ofY = ofY * y + termOf(i, j);
                }
                sum = sum * x + ofY;
            }
            return sum;
        }

        /** THE SHAPE at a place, which becomes the first of the shapes here. */
        Shape stand(int x, int y) {
            Shape here = shapes[0];
            here.clear();
            for (int i = 0; i <= TOP; i++) {
                for (int j = 0; j <= TOP - i; j++) {
                    here.add(i, j, termOf(i, j));
                }
            }
            here.moveX(x);
            here.moveY(y, TOP);
            return here;
        }

        int slopeBits(Shape shape, int m) {
            int bits = 0;
            for (int t = -REACH; t <= REACH; t++) {
                if (shape.sumOnLine(m, t) == 0 && world.lawGives(SLOPE_KEY, t, m, 0, 1) != 0) {
                    bits |= 1 << (t + REACH);
                }
            }
            return bits;
        }

        int oftenOf(Shape shape, int m, int t) {
            for (int k = 0; k < powers.length; k++) {
                powers[k] = shape.lowestOf(m, k);
            }
            int parted = 0;
            for (int n = 0; n < TOP && partBy(t); n++) {
                parted++;
            }
            return parted;
        }

        /** Parts the powers by (t less root), if that leaves no rest; else they stay. */
        private boolean partBy(int root) {
            long rest = 0;
            for (int k = powers.length - 1; k >= 0; k--) {
                rest = rest * root + powers[k];
            }
            if (rest != 0) {
                return false;
            }
            long carried = 0;
            for (int k = powers.length - 1; k >= 0; k--) {
                long before = powers[k];
                powers[k] = carried;
                carried = carried * root + before;
            }
            return true;
        }

        /** The shape at a depth, blown into the one at the next; null: it can't be. */
        Shape blow(int depth, int t) {
            if (depth < 1 || depth >= shapes.length) {
                return null;
            }
            Shape here = shapes[depth - 1];
            int m = here.least();
            if (!Shape.branches(m)) {
                return null;
            }
            here.blowInto(shapes[depth], t, m);
            return shapes[depth];
        }

        /** Counts TREE over the shape that was stood at last. */
        void growTree(int deep) {
            clearTree();
            grow(this, 1, deep);
        }

        private void clearTree() {
            treeShapes = 0;
            treeBelongs = 0;
            treeEnds = 0;
        }

        /** Counts the shape at this depth and all beneath; false: it is none of TREE. */
        private static boolean grow(View view, int depth, int deep) {
            if (depth < 1 || depth > deep || depth > view.shapes.length) {
                return false;
            }
            Shape here = view.shapes[depth - 1];
            int m = here.least();
            if (!Shape.branches(m)) {
                return false;
            }
            view.treeShapes++;
            view.treeBelongs += m * (m - 1) / 2;
            if (depth == deep) {
                view.treeEnds += m == 1 ? 1 : 0;
                return true;
            }
            int beneath = 0;
            int bits = view.slopeBits(here, m);
            for (int t = -REACH; t <= REACH; t++) {
                if ((bits >> (t + REACH) & 1) == 1 && view.blow(depth, t) != null && grow(view, depth + 1, deep)) {
                    beneath++;
                }
            }
            view.treeEnds += beneath == 0 ? 1 : 0;
            return true;
        }

        /** Looks at a curve and finds TIMES of all places, by x, then by y. */
        void walk(Curve curve) {
            look(curve);
            for (int n = 0; n < times.length; n++) {
                int x = n / SIDE - REACH;
                int y = n % SIDE - REACH;
                // VALUE there is the number of THE SHAPE without x and y, and told far sooner.
                times[n] = valueAt(x, y) != 0 ? 0 : stand(x, y).least();
            }
        }

        int placesWith(int atLeast) {
            int found = 0;
            for (int n = 0; n < times.length; n++) {
                if (times[n] >= atLeast) {
                    found++;
                }
            }
            return found;
        }

        /** Keeps TIMES of the walk before, while another curve is walked. */
        void setAside() {
            System.arraycopy(times, 0, earlier, 0, FIELD);
        }

        int placesOnBoth() {
            int found = 0;
            for (int n = 0; n < FIELD; n++) {
                if (times[n] >= 1 && earlier[n] >= 1) {
                    found++;
                }
            }
            return found;
        }

        int placeOn(int wanted) {
            int ahead = 0;
            for (int n = 0; n < times.length; n++) {
                if (times[n] >= 1) {
                    if (ahead == wanted) {
                        return toldPlace(n);
                    }
                    ahead++;
                }
            }
            return NONE;
        }

        private static int toldPlace(int n) {
            return n / SIDE * 100 + n % SIDE;
        }

        int sumOfMarks() {
            int sum = 0;
            for (int n = 0; n < times.length; n++) {
                if (times[n] >= 1) {
                    int x = n / SIDE - REACH;
                    int y = n % SIDE - REACH;
                    sum += held(world.lawGives(MARK_KEY, x, y, times[n], times[n]));
                }
            }
            return sum;
        }

        int belongsOfKnots() {
            clearTree();
            for (int n = 0; n < times.length; n++) {
                if (times[n] >= 2) {
                    stand(n / SIDE - REACH, n % SIDE - REACH);
                    grow(this, 1, DEEPEST_TREE);
                }
            }
            return treeBelongs;
        }

        /** 0: the numbers are THE PLACES TOLD; else 1 and how many are right ahead of the first fault. */
        int compareTold(int[] numbers, int many, int wanted) {
            int right = 0;
            int found = 0;
            for (int n = 0; n < times.length && found < wanted; n++) {
                if (times[n] < 1) {
                    continue;
                }
                found++;
                if (!stands(numbers, many, right, toldPlace(n))) {
                    return 1 + right;
                }
                right++;
                if (!stands(numbers, many, right, times[n])) {
                    return 1 + right;
                }
                right++;
            }
            return right == many ? 0 : 1 + right;
        }

        private static boolean stands(int[] numbers, int many, int at, int due) {
            return at >= 0 && at < many && at < numbers.length && numbers[at] == due;
        }
    }

    /** A text as it is worked out: numbers as they are, names and signs below 0, each behind its sides. */
    private static final class Law {
        static final int FIRST_NAME = -1, SECOND_NAME = -2, THIRD_NAME = -3, NOT = -'!';
        final int key;
        final int leaves;
        private final int[] code;

        Law(int key, int leaves, int[] code) {
            this.key = key;
            this.leaves = leaves;
            this.code = code;
        }

        int gives(int first, int second, int third, int[] stack) {
            int top = 0;
            for (int n = 0; n < code.length; n++) {
                int step = code[n];
                if (step >= THIRD_NAME) {
                    if (top >= stack.length) {
                        return 0;
                    }
                    stack[top] = step >= 0 ? step : step == FIRST_NAME ? first : step == SECOND_NAME ? second : third;
                    top++;
                } else if (step == NOT) {
                    if (top < 1 || top > stack.length) {
                        return 0;
                    }
                    stack[top - 1] = stack[top - 1] == 0 ? 1 : 0;
                } else {
                    if (top < 2 || top > stack.length) {
                        return 0;
                    }
                    top--;
                    stack[top - 1] = joined(-step, stack[top - 1], stack[top]);
                }
            }
            return top == 1 && stack.length > 0 ? stack[0] : 0;
        }

        private static int joined(int sign, int a, int b) {
            switch (sign) {
                case '+': return a + b;
                case '-': return a - b;
                case '*': return a * b;
                case '/': return b == 0 ? 0 : a / b;
                case '<': return a < b ? 1 : 0;
                case '=': return a == b ? 1 : 0;
                case '>': return a > b ? 1 : 0;
                case '&': return a != 0 && b != 0 ? 1 : 0;
                case '|': return a != 0 || b != 0 ? 1 : 0;
                default: return 0;
            }
        }
    }

    /** THE TAPE, and how a text is read from it. Where reading fails, it has stopped at the FAULT. */
    private static final class Tape {
        private static final int DEEPEST = 8, MOST_DIGITS = 4, TEST_LEVEL = 2, PIECE_LEVEL = 5;
        int length = 0;
        private final int[] bytes = new int[MOST_BYTES];
        private final int[] code = new int[MOST_BYTES];
        private int steps = 0;
        private int at = 0;
        private int key = -1;
        private int leaves = 0;

        void addNumber(int v) {
            for (int shift = 24; shift >= 0; shift -= 8) {
                if (length >= 0 && length < bytes.length) {
                    bytes[length] = v >>> shift & 255;
                    length++;
                }
            }
        }

        /** The place of the FAULT; -1: THE TAPE is a text. */
        int read() {
            at = 0;
            steps = 0;
            leaves = 0;
            key = readKey();
            // A number right behind the key lacks its blank.
            if (key < 0 || isDigit(byteAt(at)) || !readLevel(this, 0, 0, 0)) {
                return at;
            }
            skipBlanks();
            return at < length ? at : -1;
        }

        Law law() {
            return new Law(key, leaves, Arrays.copyOf(code, Math.max(0, steps)));
        }

        private int byteAt(int n) {
            return n < 0 || n >= length || n >= bytes.length ? -1 : bytes[n];
        }

        private static boolean isDigit(int sign) {
            return sign >= '0' && sign <= '9';
        }

        private static boolean isLetter(int sign) {
            return sign >= 'a' && sign <= 'z';
        }

        private void skipBlanks() {
            for (int n = 0; n < MOST_BYTES && byteAt(at) == ' '; n++) {
                at++;
            }
        }

        private void write(int step) {
            if (steps >= 0 && steps < code.length) {
                code[steps] = step;
                steps++;
            }
        }

        private int readKey() {
            skipBlanks();
            for (int n = TERM_KEY; n <= MARK_KEY; n++) {
                String word = n == TERM_KEY ? "term" : n == SLOPE_KEY ? "slope" : "mark";
                if (isWord(word)) {
                    at += word.length();
                    return n;
                }
            }
            return -1;
        }

        private boolean isWord(String word) {
            for (int n = 0; n < word.length(); n++) {
                if (byteAt(at + n) != word.charAt(n)) {
                    return false;
                }
            }
            return !isLetter(byteAt(at + word.length()));
        }

        /** The next sign, if it is one of these; else -1. */
        private int nextOf(String signs) {
            skipBlanks();
            int sign = byteAt(at);
            return sign >= 0 && signs.indexOf((char) sign) >= 0 ? sign : -1;
        }

        /** Which signs join the parts of a level, the loosest level first. */
        private static String signsOf(int level) {
            switch (level) {
                case 0: return "|";
                case 1: return "&";
                case TEST_LEVEL: return "<=>";
                case 3: return "+-";
                default: return "*/";
            }
        }

        private static boolean readLevel(Tape tape, int level, int opens, int nots) {
            if (level >= PIECE_LEVEL) {
                return readPiece(tape, opens, nots);
            }
            if (!readLevel(tape, level + 1, opens, nots)) {
                return false;
            }
            int most = level == TEST_LEVEL ? 1 : MOST_BYTES;
            for (int n = 0; n < most; n++) {
                int sign = tape.nextOf(signsOf(level));
                if (sign < 0) {
                    return true;
                }
                tape.at++;
                if (!readLevel(tape, level + 1, opens, nots)) {
                    return false;
                }
                tape.write(-sign);
            }
            return true;
        }

        private static boolean readPiece(Tape tape, int opens, int nots) {
            int inner = nots;
            for (int n = 0; n < MOST_BYTES && tape.nextOf("!") >= 0; n++) {
                if (inner >= DEEPEST) {
                    return false;
                }
                inner++;
                tape.at++;
            }
            if (!readInner(tape, opens, inner)) {
                return false;
            }
            for (int n = nots; n < inner; n++) {
                tape.write(Law.NOT);
            }
            return true;
        }

        private static boolean readInner(Tape tape, int opens, int nots) {
            int sign = tape.byteAt(tape.at);
            if (isDigit(sign)) {
                return tape.readNumber();
            }
            if (isLetter(sign)) {
                return tape.readName();
            }
            if (sign != '(' || opens >= DEEPEST) {
                return false;
            }
            tape.at++;
            if (!readLevel(tape, 0, opens + 1, nots) || tape.nextOf(")") < 0) {
                return false;
            }
            tape.at++;
            return true;
        }

        private boolean readNumber() {
            int v = 0;
            int digits = 0;
            for (; digits <= MOST_DIGITS && isDigit(byteAt(at + digits)); digits++) {
                v = v * 10 + byteAt(at + digits) - '0';
            }
            if (digits > MOST_DIGITS) {
                return false;
            }
            at += digits;
            leaves++;
            write(v);
            return true;
        }

        private boolean readName() {
            String names = key == TERM_KEY ? "ijc" : key == SLOPE_KEY ? "tm" : "xym";
            int name = names.indexOf((char) byteAt(at));
            if (name < 0 || isLetter(byteAt(at + 1))) {
                return false;
            }
            at++;
            leaves++;
            write(Law.FIRST_NAME - name);
            return true;
        }
    }

    /** A row of shorts or floats; NO NUMBER stands in it as NONE, which no short and no float here is. */
    private static final class Row {
        int sort = MISSING;
        int size = 0;
        final int[] places = new int[MOST_PLACES];

        void becomesEmpty(int newSort, int newSize) {
            sort = newSort;
            size = newSize;
            Arrays.fill(places, 0);
        }

        void becomes(Row other) {
            sort = other.sort;
            size = other.size;
            System.arraycopy(other.places, 0, places, 0, MOST_PLACES);
        }

        boolean hasPlace(int place) {
            return place >= 0 && place < size && place < places.length;
        }

        boolean hasRun(int place, int many) {
            return many >= 0 && many <= size && place >= 0 && place <= size - many;
        }

        int placeAt(int place) {
            return hasPlace(place) ? places[place] : 0;
        }

        void setPlace(int place, int v) {
            if (hasPlace(place)) {
                places[place] = v;
            }
        }
    }

    private static final class Slot {
        int thing = HOLDS_NOTHING;
        int number = 0;
        final Curve curve = new Curve();
        final Row row = new Row();
    }
}
