import java.lang.reflect.Method;
import java.lang.reflect.Modifier;
import java.util.ArrayList;
import java.util.Arrays;
import java.util.Comparator;
import java.util.List;
import java.util.Random;

/** Runs of calls by lot (of fixed seeds), on the class and on the model: all answers are the same. */
public final class ModelTest {
    private static final int RUNS = 60, CALLS = 400;
    private static final int[] ODD = {-1, 5, 6, 7, 14, 25, 61, 97, 100, 121, 1011, -100, 99999, 100000, -100000, 65536,
        Due.NONE, Due.BAD, Integer.MIN_VALUE, Integer.MAX_VALUE, Integer.MIN_VALUE + 1};
    private static final String[] LEAVES = {"i", "j", "c", "t", "m", "x", "y", "0", "1", "2", "3", "7", "12", "99", "0100", "9999"};

    private final Random lot;
    private final BentBranches real = new BentBranches();
    private final Model model = new Model();
    private final List<String> run = new ArrayList<>();
    private int called = 0;

    private ModelTest(long seed) {
        lot = new Random(seed);
    }

    public static void main(String[] args) throws Exception {
        int runs = args.length > 0 ? Integer.parseInt(args[0]) : RUNS;
        int first = args.length > 1 ? Integer.parseInt(args[1]) : 0;
        Method[] face = face();
        for (int n = first; n < first + runs; n++) {
            if (!new ModelTest(n).isRight(face)) {
                System.exit(1);
            }
        }
        System.out.println(runs + " runs are as the model's");
    }

    private static Method[] face() {
        return Arrays.stream(BentBranches.class.getDeclaredMethods())
            .filter(m -> Modifier.isPublic(m.getModifiers()))
            .sorted(Comparator.comparing(Method::getName))
            .toArray(Method[]::new);
    }

    private boolean isRight(Method[] face) throws Exception {
        while (called < CALLS) {
            boolean right;
            switch (lot.nextInt(14)) {
                case 0: right = drawCurve(); break;
                case 1: right = lot.nextInt(2) == 0 || drawText(); break;
                case 2: right = lot.nextInt(3) != 0 || tellPlaces(); break;
                case 3: right = lot.nextInt(8) != 0 || same("keep") && same("count", 4); break;
                case 4: right = lot.nextInt(8) != 0 || same("back") && same("count", 4); break;
                case 5: right = lookAtKnot(); break;
                default: right = anyCall(face[lot.nextInt(face.length)]);
            }
            if (!right) {
                System.out.println(String.join("\n", run));
                return false;
            }
        }
        return true;
    }

    private boolean same(String name, int... given) throws Exception {
        called++;
        Class<?>[] types = new Class<?>[given.length];
        Arrays.fill(types, int.class);
        Object[] args = Arrays.stream(given).boxed().toArray();
        Number got = (Number) BentBranches.class.getMethod(name, types).invoke(real, args);
        Number due = (Number) Model.class.getDeclaredMethod(name, types).invoke(model, args);
        run.add(name + Arrays.toString(given) + " answered " + got + ", due is " + due);
        return got.longValue() == due.longValue();
    }

    private boolean anyCall(Method call) throws Exception {
        String name = call.getName();
        if ((name.equals("back") || name.equals("sheet") || name.equals("keep")) && lot.nextInt(3) != 0) {
            return true;
        }
        int[] given = new int[call.getParameterCount()];
        for (int n = 0; n < given.length; n++) {
            given[n] = lot.nextInt(25) == 0 ? ODD[lot.nextInt(ODD.length)] : usual(name, n);
        }
        return same(name, given);
    }

    private int place() {
        return lot.nextInt(3) == 0 ? lot.nextInt(11) * 100 + lot.nextInt(11) : lot.nextInt(2) == 0 ? 505 : (4 + lot.nextInt(3)) * 100 + 4 + lot.nextInt(3);
    }

    private int number() {
        int i = lot.nextInt(5);
        return 10 * i + lot.nextInt(5 - i);
    }

    private int slope() {
        return lot.nextInt(4) == 0 ? 6 : lot.nextInt(2) == 0 ? lot.nextInt(3) - 1 : lot.nextInt(11) - 5;
    }

    private int usual(String name, int n) {
        switch (name) {
            case "curve": return lot.nextInt(6);
            case "put": return n == 0 ? lot.nextInt(6) : n == 1 ? number() : lot.nextInt(13) - 6;
            case "term": return n == 0 ? lot.nextInt(6) : n == 1 ? number() : lot.nextInt(2);
            case "shape": return n == 0 ? lot.nextInt(6) : n == 1 ? place() : lot.nextInt(4) == 0 ? lot.nextInt(180) : number();
            case "blown": case "often": case "line": return n == 0 ? lot.nextInt(6) : n == 1 ? place() : slope();
            case "times": case "lowest": case "slopes": case "corner": case "power":
                return n == 0 ? lot.nextInt(6) : n == 1 ? place() : lot.nextInt(name.equals("power") ? 2 : 5);
            case "tree": return n == 0 ? lot.nextInt(6) : n == 1 ? place() : n == 2 ? 1 + lot.nextInt(3) : lot.nextInt(3);
            case "value": return n == 0 ? lot.nextInt(6) : lot.nextInt(19) - 9;
            case "on": return n == 0 ? lot.nextInt(6) : lot.nextInt(15);
            case "seed": case "feed": return lot.nextInt();
            case "trim": return lot.nextInt(97);
            case "textTold": return n == 0 ? lot.nextInt(14) : lot.nextInt(2);
            case "sheet": return n == 0 ? lot.nextInt(4) : n == 1 ? lot.nextInt(3) - (lot.nextInt(6) == 0 ? 1 : 0) : lot.nextInt(25);
            case "mark": return n == 0 ? lot.nextInt(4) : n == 1 ? lot.nextInt(20) : lot.nextInt(9) == 0 ? Due.NONE : lot.nextInt(300) - 150;
            case "pour": return n == 0 ? lot.nextInt(4) : lot.nextInt(6);
            case "copy": return n == 0 || n == 2 ? lot.nextInt(4) : lot.nextInt(9);
            case "lay": return n == 0 ? lot.nextInt(5) : lot.nextInt(4);
            case "item": return n == 0 ? lot.nextInt(5) : lot.nextInt(15);
            case "rest": return n == 0 ? lot.nextInt(5) : lot.nextInt(21) - 10;
            case "tell": return place();
            case "check": return n == 0 ? lot.nextInt(6) : 1 + lot.nextInt(6);
            case "deal": return 1;
            default: return n == 0 ? lot.nextInt(6) : lot.nextInt(4);
        }
    }

    /** A product of small curves through a place, so that there are knots. */
    private boolean drawCurve() throws Exception {
        int[][] all = {{1, 0, 0, 0, 0}, {0, 0, 0, 0}, {0, 0, 0}, {0, 0}, {0}};
        int left = 4;
        while (left > 0 && lot.nextInt(6) != 0) {
            int degree = lot.nextInt(3) == 0 && left > 1 ? 2 : 1;
            int[][] factor = degree == 1
                ? new int[][] {{0, lot.nextInt(4)}, {lot.nextInt(7) - 3}}
                : new int[][] {{0, lot.nextInt(2), lot.nextInt(2)}, {lot.nextInt(3) - 1, lot.nextInt(3) - 1}, {lot.nextInt(5) - 2}};
            if (lot.nextInt(5) == 0) {
                factor[0][0] = lot.nextInt(5) - 2;
            }
            all = product(all, factor);
            left -= degree;
        }
        boolean right = lot.nextInt(3) != 0 || same("curve", lot.nextInt(6));
        int curve = lot.nextInt(3);
        for (int i = 0; i < 5 && right; i++) {
            for (int j = 0; i + j < 5 && right; j++) {
                right = same("put", curve, 10 * i + j, Math.max(-99, Math.min(99, all[i][j] + (lot.nextInt(60) == 0 ? 1 : 0))));
            }
        }
        return right;
    }

    private static int[][] product(int[][] one, int[][] other) {
        int[][] all = {new int[5], new int[4], new int[3], new int[2], new int[1]};
        for (int i = 0; i < 5; i++) {
            for (int j = 0; i + j < 5; j++) {
                for (int k = 0; k < other.length && i + k < 5; k++) {
                    for (int l = 0; l < other[k].length && i + k + j + l < 5; l++) {
                        all[i + k][j + l] += one[i][j] * other[k][l];
                    }
                }
            }
        }
        return all;
    }

    /** All that can be asked at a place that is ON a curve, a KNOT if there is one. */
    private boolean lookAtKnot() throws Exception {
        int curve = lot.nextInt(Math.max(1, model.count(0)));
        int place = 505;
        int often = 0;
        for (int i = 0; i < 20; i++) {
            int next = model.on(curve, i);
            if (next >= 0 && model.times(curve, next) + lot.nextInt(2) > often) {
                place = next;
                often = model.times(curve, next);
            }
        }
        boolean right = same("slopes", curve, place) && same("genus", curve);
        for (int n = 0; n < 3 && right; n++) {
            right = same("tree", curve, place, n + 1, lot.nextInt(3)) && same("often", curve, place, slope() % 6)
                && same("blown", curve, place, slope() % 6, slope()) && same("lowest", curve, place, lot.nextInt(5))
                && same("corner", curve, place, lot.nextInt(5)) && same("line", curve, place, slope());
        }
        return right && same("power", curve, place, 0) && same("power", curve, place, 1);
    }

    private String part(int depth, String names) {
        String inner = depth > 0 ? names : "";
        switch (lot.nextInt(inner.isEmpty() ? 2 : 9)) {
            case 0: return "" + names.charAt(lot.nextInt(names.length()));
            case 1: return lot.nextInt(9) == 0 ? LEAVES[lot.nextInt(LEAVES.length)] : "" + lot.nextInt(12);
            case 2: return "!" + part(depth - 1, names);
            case 3: return "(" + part(depth - 1, names) + ")";
            default: return part(depth - 1, names) + blank() + "|&<=>+-*/+-*/".charAt(lot.nextInt(13)) + blank() + part(depth - 1, names);
        }
    }

    private String blank() {
        return lot.nextInt(6) == 0 ? " " : "";
    }

    private boolean drawText() throws Exception {
        int key = lot.nextInt(3);
        StringBuilder text = new StringBuilder(blank() + new String[] {"term", "slope", "mark"}[key] + " ");
        // Terms that a text changes at all leave few knots, so most keep c.
        text.append(key == 0 && lot.nextInt(2) == 0 ? "c*(" : "");
        text.append(part(lot.nextInt(5), new String[] {"ijc", "tm", "xym"}[key]));
        text.append(text.indexOf("c*(") >= 0 ? ")" : "");
        while (lot.nextInt(3) == 0 && text.length() > 0) {
            int at = lot.nextInt(text.length());
            switch (lot.nextInt(3)) {
                case 0: text.deleteCharAt(at); break;
                case 1: text.insert(at, "()!! 019ixtm+-*/|&<=>\u00ff\tZ".charAt(lot.nextInt(24))); break;
                default: text.insert(at, "!(".repeat(lot.nextInt(10)) + "((((!!!!!".substring(lot.nextInt(9)));
            }
        }
        if (!same("trim", 0)) {
            return false;
        }
        text.setLength(Math.min(96, text.length()));
        byte[] bytes = Arrays.copyOf(text.toString().getBytes(java.nio.charset.StandardCharsets.ISO_8859_1), 96);
        java.nio.ByteBuffer numbers = java.nio.ByteBuffer.wrap(bytes);
        for (int n = 0; n < text.length(); n += 12) {
            if (!same("feed", numbers.getInt(n), numbers.getInt(n + 4), numbers.getInt(n + 8))) {
                return false;
            }
        }
        return same("trim", text.length()) && same("text");
    }

    /** THE PLACES TOLD of a curve as it is now, at times with a fault. */
    private boolean tellPlaces() throws Exception {
        int curve = lot.nextInt(3);
        int n = 1 + lot.nextInt(5);
        boolean right = (lot.nextInt(2) == 0 || same("keep")) && same("check", 0, 0);
        for (int i = 0; i < n && right; i++) {
            int place = model.on(curve, i);
            right = place < 0 || same("tell", place) && same("tell", model.times(curve, place) + (lot.nextInt(12) == 0 ? 1 : 0));
        }
        right = right && (lot.nextInt(9) != 0 || same("tell", 0));
        return right && same("check", curve, n);
    }
}
