import java.math.BigInteger;
import java.util.ArrayList;
import java.util.Arrays;
import java.util.List;
import java.util.Map;
import java.util.TreeMap;

/**
 * The document a second time, told as slowly and plainly as it goes and in other ways than the class does:
 * shapes are sums of powers in maps, texts are read sign by sign with what may come next.
 * Its methods bear the names of the class's own; ModelTest calls both and compares.
 */
final class Model {
    private static final int BAD = Due.BAD, NO = Due.NO, FULL = Due.FULL, NONE = Due.NONE;
    private static final int NOTHING = Due.NOTHING, KIND = Due.KIND, INDEX = Due.INDEX, SIZE = Due.SIZE;
    private static final int[] ABOVE = {-1, 0, 0, 1, 2, 0};

    record Line(int kind, int[][] c) {
        Line same() {
            int[][] own = new int[5][];
            for (int i = 0; i < 5; i++) {
                own[i] = c[i].clone();
            }
            return new Line(kind, own);
        }
    }

    record Law(int key, List<String> signs) {
    }

    record Place(int i, int j) implements Comparable<Place> {
        public int compareTo(Place other) {
            return i != other.i ? Integer.compare(i, other.i) : Integer.compare(j, other.j);
        }
    }

    private List<Line> curves = new ArrayList<>();
    private List<Law> laws = new ArrayList<>();
    private int z = 1;
    private List<Line> keptCurves;
    private List<Law> keptLaws;
    private int keptZ;
    private final List<Integer> bytes = new ArrayList<>();
    private final List<Integer> waiting = new ArrayList<>();
    private final Object[][] sheets = new Object[4][];
    private final int[] sorts = new int[4];
    private final Object[] slots = new Object[5];

    // ---- shapes as sums of powers

    private static Map<Place, BigInteger> sum(Map<Place, BigInteger> one, Map<Place, BigInteger> other) {
        Map<Place, BigInteger> all = new TreeMap<>(one);
        other.forEach((at, v) -> all.merge(at, v, BigInteger::add));
        all.values().removeIf(v -> v.signum() == 0);
        return all;
    }

    private static Map<Place, BigInteger> product(Map<Place, BigInteger> one, Map<Place, BigInteger> other) {
        Map<Place, BigInteger> all = new TreeMap<>();
        one.forEach((p, v) -> other.forEach((q, w) -> all.merge(new Place(p.i + q.i, p.j + q.j), v.multiply(w), BigInteger::add)));
        all.values().removeIf(v -> v.signum() == 0);
        return all;
    }

    private static Map<Place, BigInteger> alone(int i, int j, long v) {
        Map<Place, BigInteger> one = new TreeMap<>();
        if (v != 0) {
            one.put(new Place(i, j), BigInteger.valueOf(v));
        }
        return one;
    }

    private static Map<Place, BigInteger> power(Map<Place, BigInteger> base, int n) {
        Map<Place, BigInteger> all = alone(0, 0, 1);
        for (int k = 0; k < n; k++) {
            all = product(all, base);
        }
        return all;
    }

    private static Map<Place, BigInteger> into(Map<Place, BigInteger> shape, Map<Place, BigInteger> x, Map<Place, BigInteger> y) {
        Map<Place, BigInteger> all = new TreeMap<>();
        for (Map.Entry<Place, BigInteger> part : shape.entrySet()) {
            Map<Place, BigInteger> powers = product(power(x, part.getKey().i), power(y, part.getKey().j));
            powers.replaceAll((at, v) -> v.multiply(part.getValue()));
            all = sum(all, powers);
        }
        return all;
    }

    private static int timesOf(Map<Place, BigInteger> shape) {
        return shape.keySet().stream().mapToInt(at -> at.i + at.j).min().orElse(17);
    }

    private Map<Place, BigInteger> terms(Line line) {
        Map<Place, BigInteger> all = new TreeMap<>();
        for (int i = 0; i < 5; i++) {
            for (int j = 0; i + j < 5; j++) {
                all = sum(all, alone(i, j, termOf(line, line.kind, i, j)));
            }
        }
        return all;
    }

    private Map<Place, BigInteger> shapeOf(Line line, int x, int y) {
        return into(terms(line), sum(alone(1, 0, 1), alone(0, 0, x)), sum(alone(0, 1, 1), alone(0, 0, y)));
    }

    private int termOf(Line line, int kind, int i, int j) {
        switch (kind) {
            case 1: return termOf(line, 0, j, i);
            case 2: return i % 2 == 1 ? -termOf(line, 0, i, j) : termOf(line, 0, i, j);
            case 3: return -termOf(line, 1, i, j);
            case 4: return 2 * termOf(line, 2, i, j);
            case 5: return j == 0 ? termOf(line, 0, i, j) : 0;
            default: return held(gives(0, line.c[i][j], i, j, line.c[i][j]));
        }
    }

    private static int worthOf(Line line, int kind) {
        switch (kind) {
            case 1: return worthOf(line, 0) + line.c[1][0];
            case 2: return 2 * worthOf(line, 0);
            case 3: return -worthOf(line, 1);
            case 4: return worthOf(line, 2) + 1;
            case 5: return line.c[0][0];
            default: return (int) Arrays.stream(line.c).flatMapToInt(Arrays::stream).filter(v -> v != 0).count();
        }
    }

    private static boolean under(int kind, int wanted) {
        for (int k = kind; k >= 0; k = ABOVE[k]) {
            if (k == wanted) {
                return true;
            }
        }
        return false;
    }

    private static int held(int v) {
        return v < -99 ? -99 : v > 99 ? 99 : v;
    }

    /** LOWEST, as powers of t, worked out at a t. */
    private static BigInteger lowestAt(BigInteger[] lowest, int t) {
        BigInteger all = BigInteger.ZERO;
        for (int k = 0; k < lowest.length; k++) {
            all = all.add(lowest[k].multiply(BigInteger.valueOf(t).pow(k)));
        }
        return all;
    }

    private static BigInteger[] lowestOf(Map<Place, BigInteger> shape, int m) {
        BigInteger[] lowest = new BigInteger[5];
        for (int k = 0; k < 5; k++) {
            lowest[k] = shape.getOrDefault(new Place(m - k, k), BigInteger.ZERO);
        }
        return lowest;
    }

    private List<Integer> slopesOf(Map<Place, BigInteger> shape) {
        List<Integer> all = new ArrayList<>();
        int m = timesOf(shape);
        for (int t = -5; t <= 5; t++) {
            if (lowestAt(lowestOf(shape, m), t).signum() == 0 && gives(1, 1, t, m) != 0) {
                all.add(t);
            }
        }
        return all;
    }

    private static Map<Place, BigInteger> blownOf(Map<Place, BigInteger> shape, int t) {
        int m = timesOf(shape);
        Map<Place, BigInteger> put = into(shape, alone(1, 0, 1), sum(alone(1, 1, 1), alone(1, 0, t)));
        Map<Place, BigInteger> all = new TreeMap<>();
        put.forEach((at, v) -> {
            if (at.i - m <= 16) {
                all.put(new Place(at.i - m, at.j), v);
            }
        });
        return all;
    }

    private static boolean branches(Map<Place, BigInteger> shape) {
        return timesOf(shape) >= 1 && timesOf(shape) <= 16;
    }

    private int treeOf(Line line, int x, int y, int deep, int what) {
        List<Map<Place, BigInteger>> level = new ArrayList<>();
        Map<Place, BigInteger> root = shapeOf(line, x, y);
        if (branches(root)) {
            level.add(root);
        }
        int shapes = 0;
        int belongs = 0;
        int ends = 0;
        for (int depth = 1; depth <= deep; depth++) {
            List<Map<Place, BigInteger>> next = new ArrayList<>();
            for (Map<Place, BigInteger> shape : level) {
                int m = timesOf(shape);
                shapes++;
                belongs += m * (m - 1) / 2;
                int before = next.size();
                for (int t : slopesOf(shape)) {
                    if (branches(blownOf(shape, t))) {
                        next.add(blownOf(shape, t));
                    }
                }
                if (depth == deep ? m == 1 : next.size() == before) {
                    ends++;
                }
            }
            level = next;
        }
        return what == 0 ? shapes : what == 1 ? belongs : ends;
    }

    // ---- texts

    private int gives(int key, int without, int... names) {
        for (int n = laws.size() - 1; n >= 0; n--) {
            if (laws.get(n).key == key) {
                List<String> signs = laws.get(n).signs;
                return worked(signs, 0, signs.size(), NAMES[key], names);
            }
        }
        return without;
    }

    private static final String[] NAMES = {"ijc", "tm", "xym"};
    private static final String[] KEYS = {"term", "slope", "mark"};
    private static final String[] LEVELS = {"|", "&", "<=>", "+-", "*/"};

    /** What the signs from one on, ahead of another, give: parted at the last of the loosest signs. */
    private static int worked(List<String> signs, int from, int to, String names, int[] values) {
        for (String level : LEVELS) {
            int open = 0;
            for (int n = to - 1; n > from; n--) {
                String sign = signs.get(n);
                open += sign.equals(")") ? 1 : sign.equals("(") ? -1 : 0;
                if (open == 0 && level.contains(sign)) {
                    return joined(sign, worked(signs, from, n, names, values), worked(signs, n + 1, to, names, values));
                }
            }
        }
        String first = signs.get(from);
        if (first.equals("!")) {
            return worked(signs, from + 1, to, names, values) == 0 ? 1 : 0;
        }
        if (first.equals("(")) {
            return worked(signs, from + 1, to - 1, names, values);
        }
        return Character.isDigit(first.charAt(0)) ? Integer.parseInt(first) : values[names.indexOf(first)];
    }

    private static int joined(String sign, int a, int b) {
        switch (sign) {
            case "|": return a != 0 | b != 0 ? 1 : 0;
            case "&": return a != 0 & b != 0 ? 1 : 0;
            case "<": return a < b ? 1 : 0;
            case "=": return a == b ? 1 : 0;
            case ">": return a > b ? 1 : 0;
            case "+": return a + b;
            case "-": return a - b;
            case "*": return a * b;
            default: return b == 0 ? 0 : (int) ((long) a / b);
        }
    }

    /** Reads sign by sign with what may come next; gives the place of the FAULT or -1. */
    private int readTape(List<String> signs, int[] key) {
        int at = 0;
        boolean wordAhead = false;
        boolean piece = true;
        List<Integer> notsOutside = new ArrayList<>();
        List<Boolean> comparedOutside = new ArrayList<>();
        int notsHere = 0;
        int nots = 0;
        boolean compared = false;
        key[0] = -1;
        while (at < bytes.size()) {
            int start = at;
            String sign = wordAt(at);
            at += sign.length();
            if (sign.equals(" ")) {
                wordAhead = false;
                continue;
            }
            boolean number = sign.charAt(0) >= '0' && sign.charAt(0) <= '9';
            boolean letters = sign.charAt(0) >= 'a' && sign.charAt(0) <= 'z';
            if (wordAhead && (number || letters)) {
                return start;
            }
            wordAhead = number || letters;
            if (key[0] < 0) {
                key[0] = Arrays.asList(KEYS).indexOf(sign);
                if (key[0] < 0) {
                    return start;
                }
                continue;
            }
            boolean leaf = number && sign.length() <= 4 || letters && sign.length() == 1 && NAMES[key[0]].contains(sign);
            if (piece && leaf) {
                piece = false;
                nots = notsHere;
            } else if (piece && sign.equals("!") && nots < 8) {
                nots++;
            } else if (piece && sign.equals("(") && notsOutside.size() < 8) {
                notsOutside.add(notsHere);
                comparedOutside.add(compared);
                notsHere = nots;
                compared = false;
            } else if (!piece && sign.equals(")") && !notsOutside.isEmpty()) {
                notsHere = notsOutside.remove(notsOutside.size() - 1);
                compared = comparedOutside.remove(comparedOutside.size() - 1);
                nots = notsHere;
            } else if (!piece && "|&".contains(sign)) {
                compared = false;
                piece = true;
            } else if (!piece && "<=>".contains(sign) && !compared) {
                compared = true;
                piece = true;
            } else if (!piece && "+-*/".contains(sign)) {
                piece = true;
            } else {
                return start;
            }
            signs.add(sign);
        }
        return piece || key[0] < 0 || !notsOutside.isEmpty() ? at : -1;
    }

    private String wordAt(int from) {
        StringBuilder word = new StringBuilder();
        for (int n = from; n < bytes.size(); n++) {
            char sign = (char) (int) bytes.get(n);
            boolean digit = sign >= '0' && sign <= '9';
            boolean letter = sign >= 'a' && sign <= 'z';
            if (n > from && !(digit && isAll(word, '0', '9')) && !(letter && isAll(word, 'a', 'z'))) {
                return word.toString();
            }
            word.append(sign);
        }
        return word.toString();
    }

    private static boolean isAll(StringBuilder word, char from, char to) {
        return word.chars().allMatch(sign -> sign >= from && sign <= to);
    }

    // ---- the face

    private Line at(int curve) {
        return curve >= 0 && curve < curves.size() ? curves.get(curve) : null;
    }

    private static boolean in(int v, int from, int to) {
        return v >= from && v <= to;
    }

    private static boolean isAt(int at) {
        return at >= 0 && at / 10 + at % 10 <= 4;
    }

    private boolean bad(int curve, int place) {
        return at(curve) == null || !in(place, 0, 1010) || place % 100 > 10;
    }

    private Map<Place, BigInteger> here(int curve, int place) {
        return shapeOf(at(curve), place / 100 - 5, place % 100 - 5);
    }

    int curve(int kind) {
        if (!in(kind, 0, 5)) {
            return BAD;
        }
        if (curves.size() == 6) {
            return FULL;
        }
        curves.add(new Line(kind, new int[][] {new int[5], new int[4], new int[3], new int[2], new int[1]}));
        return curves.size() - 1;
    }

    int put(int curve, int at, int v) {
        if (at(curve) == null || !isAt(at) || !in(v, -99, 99)) {
            return BAD;
        }
        int before = at(curve).c[at / 10][at % 10];
        at(curve).c[at / 10][at % 10] = v;
        return before;
    }

    int term(int curve, int at, int what) {
        if (at(curve) == null || !isAt(at) || !in(what, 0, 1)) {
            return BAD;
        }
        Line line = at(curve);
        return what == 0 ? line.c[at / 10][at % 10] : termOf(line, line.kind, at / 10, at % 10);
    }

    int told(int curve, int what) {
        if (at(curve) == null || !in(what, 0, 3)) {
            return BAD;
        }
        Line line = at(curve);
        switch (what) {
            case 0: return line.kind;
            case 1: return terms(line).keySet().stream().mapToInt(p -> p.i + p.j).max().orElse(-1);
            case 2: return worthOf(line, line.kind);
            default: return terms(line).size();
        }
    }

    int as(int curve, int kind) {
        if (at(curve) == null || !in(kind, 0, 5)) {
            return BAD;
        }
        return under(at(curve).kind, kind) ? at(curve).c[0][0] : KIND;
    }

    int turns(int curve, int kind) {
        if (at(curve) == null || !in(kind, 0, 5)) {
            return BAD;
        }
        int before = at(curve).kind;
        curves.set(curve, new Line(kind, at(curve).c));
        return before;
    }

    int mix(int curve, int one, int other, int how) {
        if (at(curve) == null || at(one) == null || at(other) == null || !in(how, 0, 1)) {
            return BAD;
        }
        Line a = at(one).same();
        Line b = at(other).same();
        for (int i = 0; i < 5; i++) {
            for (int j = 0; i + j < 5; j++) {
                at(curve).c[i][j] = held(how == 0 ? a.c[i][j] + b.c[i][j] : b.c[i][j] - a.c[i][j]);
            }
        }
        return worthOf(at(curve), 0);
    }

    int deal(int n) {
        if (!in(n, 1, 6)) {
            return BAD;
        }
        int came = Math.min(n, 6 - curves.size());
        for (int k = 0; k < came; k++) {
            Line line = at(curve(0));
            for (int[] row : line.c) {
                for (int j = 0; j < row.length; j++) {
                    z = (int) (z * 1103515245L + 12345L);
                    row[j] = (int) ((z & 0xFFFFFFFFL) / 256 % 7) - 3;
                }
            }
        }
        return came;
    }

    int seed(int v) {
        int before = z;
        z = v;
        return before;
    }

    long value(int curve, int x, int y) {
        if (at(curve) == null || !in(x, -9, 9) || !in(y, -9, 9)) {
            return BAD;
        }
        return into(terms(at(curve)), alone(0, 0, x), alone(0, 0, y)).getOrDefault(new Place(0, 0), BigInteger.ZERO).longValueExact();
    }

    int times(int curve, int place) {
        return bad(curve, place) ? BAD : timesOf(here(curve, place));
    }

    long shape(int curve, int place, int at) {
        if (bad(curve, place) || !in(at, 0, 164) || at % 10 > 4) {
            return BAD;
        }
        return here(curve, place).getOrDefault(new Place(at / 10, at % 10), BigInteger.ZERO).longValueExact();
    }

    long lowest(int curve, int place, int k) {
        if (bad(curve, place) || !in(k, 0, 4)) {
            return BAD;
        }
        Map<Place, BigInteger> shape = here(curve, place);
        return branches(shape) ? lowestOf(shape, timesOf(shape))[k].longValueExact() : NO;
    }

    int slopes(int curve, int place) {
        if (bad(curve, place)) {
            return BAD;
        }
        Map<Place, BigInteger> shape = here(curve, place);
        return branches(shape) ? slopesOf(shape).stream().mapToInt(t -> 1 << t + 5).sum() : NO;
    }

    int often(int curve, int place, int t) {
        if (bad(curve, place) || !in(t, -5, 5)) {
            return BAD;
        }
        Map<Place, BigInteger> shape = here(curve, place);
        if (!branches(shape)) {
            return NO;
        }
        // t is one as often as LOWEST and what comes of it by derivation are 0 there.
        BigInteger[] lowest = lowestOf(shape, timesOf(shape));
        int found = 0;
        while (lowestAt(lowest, t).signum() == 0) {
            found++;
            BigInteger[] next = new BigInteger[lowest.length - 1];
            for (int k = 1; k < lowest.length; k++) {
                next[k - 1] = lowest[k].multiply(BigInteger.valueOf(k));
            }
            lowest = next;
        }
        return found;
    }

    int blown(int curve, int place, int t, int u) {
        if (bad(curve, place) || !in(t, -5, 5) || !in(u, -5, 6)) {
            return BAD;
        }
        Map<Place, BigInteger> shape = here(curve, place);
        if (!branches(shape)) {
            return NO;
        }
        shape = blownOf(shape, t);
        if (u == 6) {
            return timesOf(shape);
        }
        return branches(shape) ? timesOf(blownOf(shape, u)) : NO;
    }

    int tree(int curve, int place, int n, int what) {
        if (bad(curve, place) || !in(n, 1, 3) || !in(what, 0, 2)) {
            return BAD;
        }
        return treeOf(at(curve), place / 100 - 5, place % 100 - 5, n, what);
    }

    private static int cornerOf(Map<Place, BigInteger> shape, int j) {
        return shape.keySet().stream().filter(at -> at.j == j).mapToInt(at -> at.i).min().orElse(17);
    }

    int corner(int curve, int place, int j) {
        if (bad(curve, place) || !in(j, 0, 4)) {
            return BAD;
        }
        int i = cornerOf(here(curve, place), j);
        return i == 17 ? NONE : i;
    }

    int power(int curve, int place, int what) {
        if (bad(curve, place) || !in(what, 0, 1)) {
            return BAD;
        }
        Map<Place, BigInteger> shape = here(curve, place);
        int first = 0;
        while (first < 5 && cornerOf(shape, first) == 17) {
            first++;
        }
        // Twelfths make whole numbers of all such fractions.
        Integer best = null;
        for (int k = first + 1; k < 5; k++) {
            if (cornerOf(shape, k) != 17) {
                int twelfths = 12 * (cornerOf(shape, first) - cornerOf(shape, k)) / (k - first);
                best = best == null ? twelfths : Math.max(best, twelfths);
            }
        }
        if (best == null) {
            return NONE;
        }
        int shared = BigInteger.valueOf(best).gcd(BigInteger.valueOf(12)).intValue();
        return what == 0 ? best / shared : 12 / shared;
    }

    int line(int curve, int place, int t) {
        if (bad(curve, place) || !in(t, -5, 6)) {
            return BAD;
        }
        Map<Place, BigInteger> shape = here(curve, place);
        Map<Place, BigInteger> put = t == 6 ? into(shape, alone(0, 0, 0), alone(1, 0, 1)) : into(shape, alone(1, 0, 1), alone(1, 0, t));
        return put.keySet().stream().mapToInt(at -> at.i).min().orElse(-1);
    }

    private List<int[]> placesOn(Line line) {
        List<int[]> all = new ArrayList<>();
        for (int x = -5; x <= 5; x++) {
            for (int y = -5; y <= 5; y++) {
                int m = timesOf(shapeOf(line, x, y));
                if (m >= 1) {
                    all.add(new int[] {x, y, m});
                }
            }
        }
        return all;
    }

    int all(int curve, int what) {
        if (at(curve) == null || !in(what, 0, 2)) {
            return BAD;
        }
        List<int[]> places = placesOn(at(curve));
        if (what == 2) {
            return places.stream().mapToInt(p -> held(gives(2, p[2], p))).sum();
        }
        return (int) places.stream().filter(p -> p[2] >= what + 1).count();
    }

    int on(int curve, int i) {
        if (at(curve) == null || i < 0) {
            return BAD;
        }
        List<int[]> places = placesOn(at(curve));
        return i < places.size() ? 100 * (places.get(i)[0] + 5) + places.get(i)[1] + 5 : NONE;
    }

    int genus(int curve) {
        if (at(curve) == null) {
            return BAD;
        }
        int degree = told(curve, 1);
        if (degree == -1) {
            return NO;
        }
        int belongs = 0;
        for (int[] p : placesOn(at(curve))) {
            belongs += p[2] >= 2 ? treeOf(at(curve), p[0], p[1], 3, 1) : 0;
        }
        return (degree - 1) * (degree - 2) / 2 - belongs;
    }

    int both(int one, int other) {
        if (at(one) == null || at(other) == null) {
            return BAD;
        }
        int found = 0;
        for (int[] p : placesOn(at(one))) {
            found += timesOf(shapeOf(at(other), p[0], p[1])) >= 1 ? 1 : 0;
        }
        return found;
    }

    int feed(int a, int b, int c) {
        if (bytes.size() + 12 > 96) {
            return FULL;
        }
        for (int v : new int[] {a, b, c}) {
            for (byte part : java.nio.ByteBuffer.allocate(4).putInt(v).array()) {
                bytes.add(part & 255);
            }
        }
        return bytes.size();
    }

    int trim(int n) {
        if (!in(n, 0, bytes.size())) {
            return BAD;
        }
        bytes.subList(n, bytes.size()).clear();
        return n;
    }

    int text() {
        List<String> signs = new ArrayList<>();
        int[] key = new int[1];
        int fault = readTape(signs, key);
        bytes.clear();
        if (fault >= 0) {
            return -100 - fault;
        }
        if (laws.size() == 14) {
            return FULL;
        }
        laws.add(new Law(key[0], signs));
        return laws.size() - 1;
    }

    int textTold(int text, int what) {
        if (!in(text, 0, laws.size() - 1) || !in(what, 0, 1)) {
            return BAD;
        }
        Law law = laws.get(text);
        return what == 0 ? law.key : (int) law.signs.stream().filter(sign -> Character.isLetterOrDigit(sign.charAt(0))).count();
    }

    int why(int key) {
        if (!in(key, 0, 2)) {
            return BAD;
        }
        int found = NONE;
        for (int n = 0; n < laws.size(); n++) {
            found = laws.get(n).key == key ? n : found;
        }
        return found;
    }

    int sheet(int sheet, int sort, int n) {
        if (!in(sheet, 0, 3) || !in(sort, -1, 1) || sort >= 0 && n > 24) {
            return BAD;
        }
        if (sort >= 0 && n < 0) {
            return SIZE;
        }
        sorts[sheet] = sort;
        sheets[sheet] = sort < 0 ? null : new Object[n];
        if (sort >= 0) {
            Arrays.fill(sheets[sheet], 0);
        }
        return sort < 0 ? 0 : n;
    }

    int mark(int sheet, int place, int v) {
        if (!in(sheet, 0, 3)) {
            return BAD;
        }
        if (sheets[sheet] == null) {
            return NOTHING;
        }
        if (!in(place, 0, sheets[sheet].length - 1)) {
            return INDEX;
        }
        if (sorts[sheet] == 0 && v == NONE) {
            return KIND;
        }
        if (sorts[sheet] == 1 && v != NONE && !in(v, -99999, 99999)) {
            return BAD;
        }
        sheets[sheet][place] = sorts[sheet] == 0 ? Integer.valueOf((short) v) : v == NONE ? "no number" : Integer.valueOf(v);
        return 1;
    }

    int pour(int sheet, int curve) {
        if (!in(sheet, 0, 3) || at(curve) == null) {
            return BAD;
        }
        if (sheets[sheet] == null) {
            return NOTHING;
        }
        int next = 0;
        int changed = 0;
        for (int[] row : at(curve).c) {
            for (int j = 0; j < row.length && next < sheets[sheet].length; j++, next++) {
                int before = row[j];
                row[j] = sheets[sheet][next] instanceof Integer v ? held(v) : before;
                changed += row[j] == before ? 0 : 1;
            }
        }
        return changed;
    }

    int copy(int from, int place, int to, int at, int many) {
        if (!in(from, 0, 3) || !in(to, 0, 3)) {
            return BAD;
        }
        if (sheets[from] == null || sheets[to] == null) {
            return NOTHING;
        }
        if (sorts[from] != sorts[to]) {
            return KIND;
        }
        try {
            System.arraycopy(sheets[from], place, sheets[to], at, many);
        } catch (IndexOutOfBoundsException none) {
            return INDEX;
        }
        return many;
    }

    int lay(int slot, int thing, int k) {
        if (!in(slot, 0, 4) || !in(thing, 0, 3) || thing == 1 && at(k) == null || thing == 2 && !in(k, 0, 3)) {
            return BAD;
        }
        if (thing == 2 && sheets[k] == null) {
            return NOTHING;
        }
        Object before = slots[slot];
        slots[slot] = thing == 0 ? null : thing == 1 ? at(k).same() : thing == 2 ? sheets[k].clone() : Integer.valueOf(k);
        return before == null ? 0 : before instanceof Line ? 1 : before instanceof Integer ? 3 : 2;
    }

    int ask(int slot, int kind) {
        if (!in(slot, 0, 4) || !in(kind, 0, 5)) {
            return BAD;
        }
        if (slots[slot] == null) {
            return NOTHING;
        }
        return slots[slot] instanceof Line line && under(line.kind, kind) ? worthOf(line, line.kind) : KIND;
    }

    int item(int slot, int place) {
        if (!in(slot, 0, 4)) {
            return BAD;
        }
        if (slots[slot] == null) {
            return NOTHING;
        }
        if (!(slots[slot] instanceof Object[] row)) {
            return KIND;
        }
        if (!in(place, 0, row.length - 1)) {
            return INDEX;
        }
        return row[place] instanceof Integer v ? v : KIND;
    }

    int rest(int slot, int n) {
        if (!in(slot, 0, 4)) {
            return BAD;
        }
        if (slots[slot] == null) {
            return NOTHING;
        }
        if (!(slots[slot] instanceof Integer v)) {
            return KIND;
        }
        return n == 0 ? NO : (int) ((long) v % n);
    }

    int tell(int v) {
        if (waiting.size() == 60) {
            return FULL;
        }
        waiting.add(v);
        return waiting.size();
    }

    int check(int curve, int n) {
        List<Integer> told = new ArrayList<>(waiting);
        waiting.clear();
        if (!in(n, 1, 30)) {
            return BAD;
        }
        if (keptCurves == null) {
            return NO;
        }
        if (!in(curve, 0, keptCurves.size() - 1)) {
            return BAD;
        }
        List<Law> lawsNow = laws;
        laws = keptLaws;
        List<Integer> due = new ArrayList<>();
        for (int[] p : placesOn(keptCurves.get(curve))) {
            if (due.size() < 2 * n) {
                due.add(100 * (p[0] + 5) + p[1] + 5);
                due.add(p[2]);
            }
        }
        laws = lawsNow;
        int right = 0;
        while (right < told.size() && right < due.size() && told.get(right).equals(due.get(right))) {
            right++;
        }
        return told.equals(due) ? 0 : 1 + right;
    }

    private static List<Line> same(List<Line> lines) {
        List<Line> all = new ArrayList<>();
        lines.forEach(line -> all.add(line.same()));
        return all;
    }

    int keep() {
        keptCurves = same(curves);
        keptLaws = new ArrayList<>(laws);
        keptZ = z;
        return curves.size();
    }

    int back() {
        if (keptCurves == null) {
            return NO;
        }
        curves = same(keptCurves);
        laws = new ArrayList<>(keptLaws);
        z = keptZ;
        return curves.size();
    }

    int count(int what) {
        return what == 0 ? curves.size() : what == 1 ? laws.size() : what == 2 ? waiting.size() : what == 3 ? bytes.size() : what == 4 ? z : BAD;
    }
}
