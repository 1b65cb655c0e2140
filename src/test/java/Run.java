import java.lang.reflect.Method;
import java.util.ArrayList;
import java.util.Arrays;
import java.util.List;
import java.util.function.Function;

/**
 * A run of calls that is written down, so that it can be made again on a fresh object: then one call more is made
 * with it and without it, and what is left by both is compared.
 */
final class Run {
    private static final int MOST_CALLS = 512;

    private record Call(String name, int... given) {
        long on(BentBranches x) {
            return call(x, name, given);
        }

        @Override
        public String toString() {
            String args = Arrays.toString(given);
            return name + "(" + args.substring(1, args.length() - 1) + ")";
        }
    }

    private final List<Call> calls = new ArrayList<>();
    private BentBranches object = new BentBranches();
    private List<String> left;

    static long call(BentBranches x, String name, int... given) {
        Class<?>[] types = new Class<?>[given.length];
        Arrays.fill(types, int.class);
        try {
            Method method = BentBranches.class.getMethod(name, types);
            return ((Number) method.invoke(x, Arrays.stream(given).boxed().toArray())).longValue();
        } catch (ReflectiveOperationException none) {
            throw new IllegalStateException(name + Arrays.toString(given), none);
        }
    }

    /** Makes a call that goes on with the run. */
    Run does(long due, String name, int... given) {
        Call call = new Call(name, given);
        calls.add(call);
        left = null;
        Due.is(call.toString(), call.on(object), due);
        return this;
    }

    /** A text from a fresh TAPE. */
    Run tells(long due, String text) {
        feeds(text);
        return does(due, "text");
    }

    /** THE TAPE holds a text and nothing else. */
    Run feeds(String text) {
        does(0, "trim", 0);
        int length = 0;
        for (int[] part : Due.twelves(text)) {
            length += 12;
            does(length, "feed", part);
        }
        return does(text.length(), "trim", text.length());
    }

    /** One more curve of a kind: 10 times i and j, and c, by turns. */
    Run draws(int number, int kind, int... numbers) {
        does(number, "curve", kind);
        for (int n = 0; n + 1 < numbers.length; n += 2) {
            does(0, "put", number, numbers[n], numbers[n + 1]);
        }
        return this;
    }

    /** A question: after it all is as before, and the run goes on without it. */
    Run asks(long due, String name, int... given) {
        Call call = new Call(name, given);
        Due.is(call + " behind itself", call.on(again(with(call))), due);
        return leaves(due, call, calls);
    }

    /** A refused call: after it all is as before, and the run goes on without it. */
    Run refuses(long due, String name, int... given) {
        return asks(due, name, given);
    }

    /** A refused call that uses up THE TAPE, and changes nothing else. */
    Run refusesWithTape(long due, String name, int... given) {
        List<Call> others = new ArrayList<>(calls);
        others.add(new Call("trim", 0));
        return leaves(due, new Call(name, given), others);
    }

    /** An answer after which no numbers wait, and nothing else has changed. */
    Run answersWithWaiting(long due, String name, int... given) {
        List<Call> others = new ArrayList<>(calls);
        others.removeIf(call -> call.name.equals("tell"));
        return leaves(due, new Call(name, given), others);
    }

    /** A call that changes something; the run goes on without it. */
    Run changes(long due, String name, int... given) {
        Call call = new Call(name, given);
        Due.is(call.toString(), call.on(again(calls)), due);
        Due.is(call + " changes something", looked(with(call)).equals(now()) ? 0 : 1, 1);
        return this;
    }

    /** A call whose answer alone is looked at; the run goes on without it. */
    Run answers(long due, String name, int... given) {
        Call call = new Call(name, given);
        Due.is(call.toString(), call.on(again(calls)), due);
        return this;
    }

    /** What a place of a sheet holds, seen by a slot that is laid for it alone. */
    Run shows(long due, int sheet, int place) {
        BentBranches x = again(calls);
        x.lay(4, 2, sheet);
        Due.is("place " + place + " of sheet " + sheet, x.item(4, place), due);
        return this;
    }

    private Run leaves(long due, Call call, List<Call> others) {
        Due.is(call.toString(), call.on(again(calls)), due);
        List<String> got = looked(with(call));
        List<String> wanted = others == calls ? now() : looked(others);
        for (int n = 0; n < Math.max(got.size(), wanted.size()); n++) {
            String one = n < got.size() ? got.get(n) : "nothing";
            String other = n < wanted.size() ? wanted.get(n) : "nothing";
            Due.is("after " + call + " " + one + ", due is " + other + "; the same", one.equals(other) ? 1 : 0, 1);
        }
        return this;
    }

    private List<Call> with(Call call) {
        List<Call> all = new ArrayList<>(calls);
        all.add(call);
        return all;
    }

    private List<String> now() {
        if (left == null) {
            left = looked(calls);
        }
        return left;
    }

    private static BentBranches again(List<Call> calls) {
        BentBranches x = new BentBranches();
        calls.forEach(call -> call.on(x));
        return x;
    }

    private static List<String> looked(List<Call> calls) {
        List<String> all = new ArrayList<>();
        for (Function<BentBranches, List<String>> look : List.<Function<BentBranches, List<String>>>of(Look::now, Look::image)) {
            List<String> seen = look.apply(again(calls));
            if (calls.size() + seen.size() > MOST_CALLS) {
                throw new IllegalStateException("more than 512 calls on one object");
            }
            all.addAll(seen);
        }
        return all;
    }

    /** One argument of a call, of which the least and the greatest are taken and what is beyond them is refused. */
    final class Argument {
        private final int which;
        private final String name;
        private final int[] given;
        private int least = Integer.MIN_VALUE;
        private int most = Integer.MAX_VALUE;

        private Argument(int which, String name, int[] given) {
            this.which = which;
            this.name = name;
            this.given = given;
        }

        private int[] at(int v) {
            int[] all = given.clone();
            all[which] = v;
            return all;
        }

        Argument least(int v, long due) {
            least = v;
            answers(due, name, at(v));
            return this;
        }

        Argument most(int v, long due) {
            most = v;
            answers(due, name, at(v));
            return this;
        }

        Run beyond(long due) {
            return below(due).above(due);
        }

        Run above(long due) {
            refuses(due, name, at(most + 1));
            return refuses(due, name, at(Integer.MAX_VALUE));
        }

        private Argument below(long due) {
            refuses(due, name, at(least - 1));
            refuses(due, name, at(Integer.MIN_VALUE));
            return this;
        }
    }

    Argument argument(int which, String name, int... given) {
        return new Argument(which, name, given);
    }

    /** Something of all: two curves, two texts, an image, sheets of both sorts, slots, a tape, numbers that wait. */
    static Run some() {
        Run run = new Run().draws(0, 0, 2, 1, 40, -1).draws(1, 3, 0, 4, 10, 6);
        run.tells(0, "slope t<5").tells(1, "mark m*m").does(2, "keep");
        run.does(0, "put", 1, 11, -7).does(1, "seed", 5);
        run.does(3, "sheet", 0, 0, 3).does(1, "mark", 0, 0, 1).does(1, "mark", 0, 1, -2).does(1, "mark", 0, 2, 300);
        run.does(4, "sheet", 1, 1, 4).does(1, "mark", 1, 0, 5).does(1, "mark", 1, 1, Due.NONE).does(1, "mark", 1, 2, 99999);
        run.does(0, "sheet", 2, 1, 0);
        run.does(0, "lay", 1, 1, 1).does(0, "lay", 2, 2, 1).does(0, "lay", 3, 3, 17);
        run.does(1, "tell", 301).does(2, "tell", 1);
        return run.feeds("term c+i");
    }

    /** As much of all as there is room for. */
    static Run full() {
        Run run = new Run();
        for (int n = 0; n < 6; n++) {
            run.does(n, "curve", n);
        }
        for (int n = 0; n < 14; n++) {
            int[] text = Due.twelves(n % 3 == 0 ? "mark " + (n + 10) + "     " : n % 3 == 1 ? "term c      " : "slope t     ").get(0);
            run.does(12, "feed", text).does(n, "text");
        }
        run.does(6, "keep").does(0, "put", 0, 2, 1).does(0, "put", 0, 30, -1).does(0, "put", 3, 10, 5).does(1, "seed", -9);
        run.does(24, "sheet", 0, 0, 24).does(24, "sheet", 1, 1, 24).does(0, "sheet", 2, 0, 0);
        run.does(1, "mark", 0, 23, -1).does(1, "mark", 1, 23, Due.NONE).does(1, "mark", 1, 0, -99999);
        run.does(0, "lay", 0, 1, 3).does(0, "lay", 1, 2, 1).does(0, "lay", 2, 3, -17).does(0, "lay", 3, 1, 0).does(0, "lay", 4, 3, 0);
        for (int n = 0; n < 30; n++) {
            run.does(2 * n + 1, "tell", n / 11 * 100 + n % 11).does(2 * n + 2, "tell", 17);
        }
        List<int[]> parts = Due.twelves("mark x*x+y*y" + " ".repeat(84));
        for (int n = 0; n < 8; n++) {
            run.does(12 * n + 12, "feed", parts.get(n));
        }
        return run;
    }
}
