import java.lang.reflect.InvocationTargetException;
import java.lang.reflect.Method;
import java.lang.reflect.Modifier;
import java.util.TreeMap;

/** Runs the tests of a class one by one, and holds what they have in common: numbers just inside and just outside. */
final class Edges {
    static final int NONE = -1, BAD = -2, NO = -3, FULL = -4;
    static final int MIN = Integer.MIN_VALUE, MAX = Integer.MAX_VALUE;
    /** Told nowhere, whatever a number is for. */
    private static final int[] FAR_OFF = {MIN, MIN + 1, -4096, -256, -13, -2, 4096, 4097, 1 << 16, 1 << 30, MAX - 1, MAX};

    private static Checks checks = new Checks("none");
    private static String test = "";

    /** A call with one number that is tried out. */
    interface Call {
        long of(WordBench x, int v);
    }

    /** Makes a new object, with all that a call needs. */
    interface Benches {
        WordBench make();
    }

    private Edges() {
    }

    /** Each static method of the class whose name begins with "promise" and two digits, for the promises told. */
    static void run(Class<?> tests, int firstPromise, int lastPromise) throws ReflectiveOperationException {
        checks = new Checks(tests.getSimpleName());
        TreeMap<String, Method> methods = new TreeMap<>();
        for (Method m : tests.getDeclaredMethods()) {
            if (m.getName().matches("promise[0-9][0-9].*") && Modifier.isStatic(m.getModifiers())) {
                methods.put(m.getName(), m);
            }
        }
        for (Method m : methods.values()) {
            test = m.getName();
            m.setAccessible(true);
            try {
                m.invoke(null);
            } catch (InvocationTargetException e) {
                holds("ends without " + e.getCause(), false);
            }
        }
        test = tests.getSimpleName();
        for (int promise = firstPromise; promise <= lastPromise; promise++) {
            String begin = String.format("promise%02d", promise);
            holds("a test of " + begin, methods.keySet().stream().anyMatch(name -> name.startsWith(begin)));
        }
        System.out.println(methods.size() + " tests");
        checks.end();
    }

    static void due(String what, long got, long want) {
        checks.due(test + ": " + what, got, want);
    }

    static void holds(String what, boolean so) {
        checks.holds(test + ": " + what, so);
    }

    static void dueWord(String what, WordBench x, String want) {
        checks.dueWord(test + ": " + what, x, want);
    }

    /** The word and its length are as due, or, for NONE, the word is what it was. */
    static void dueFound(String what, WordBench x, long got, String want) {
        due(what + ", how long", got, want.length());
        dueWord(what, x, want);
    }

    /** The call answers as due and changes nothing. */
    static void dueUnchanged(String what, WordBench x, Call call, int v, long want) {
        long before = x.digest();
        due(what, call.of(x, v), want);
        due(what + ", nothing changed", x.digest(), before);
    }

    /** The call is BAD and changes nothing for each number that is not from least to most, and not BAD for those that are. */
    static void range(Benches benches, Call call, int least, int most) {
        for (int v = least; v <= most; v++) {
            holds(v + " is taken", call.of(benches.make(), v) != BAD);
        }
        dueUnchanged((least - 1) + " is just too small", benches.make(), call, least - 1, BAD);
        dueUnchanged((most + 1) + " is just too large", benches.make(), call, most + 1, BAD);
        for (int v : FAR_OFF) {
            if (v < least || v > most) {
                dueUnchanged(v + " is far off", benches.make(), call, v, BAD);
            }
        }
    }

    /** The call's number is a machine's: those of none, one, .. six are made. */
    static void machines(Call call) {
        for (int made = 0; made <= 6; made++) {
            int many = made;
            range(() -> benchOf(many), call, 0, made - 1);
        }
    }

    /** So many machines of three states and two letters, all moves there. */
    private static WordBench benchOf(int many) {
        WordBench x = new WordBench();
        for (int i = 0; i < many; i++) {
            x.ring(3);
        }
        x.letter(1);
        return x;
    }

    /** The number stands for all that the call asks for, and is wrong for each of them. */
    static void allWrong(Call call) {
        for (int v : new int[] {MIN, MIN + 1, -2, -1, 4096, MAX - 1, MAX}) {
            dueUnchanged("all are " + v + ", no machine", new WordBench(), call, v, BAD);
            dueUnchanged("all are " + v + ", six machines", benchOf(6), call, v, BAD);
        }
    }

    /** Machines 0 to 5 are rings of 2 to 7 states. */
    static WordBench sixRings() {
        WordBench x = new WordBench();
        for (int i = 0; i < 6; i++) {
            x.ring(2 + i);
        }
        return x;
    }

    /** The call's number is a state's of machine 0, which has the least, the most and other numbers of them. */
    static void states(Call call) {
        for (int n : new int[] {1, 2, 3, 11, 12}) {
            range(() -> whole(n, 2), call, 0, n - 1);
        }
    }

    /** The call's number is a letter's of machine 0, which has the least, the most and other numbers of them. */
    static void letters(Call call) {
        for (int k = 1; k <= 4; k++) {
            int many = k;
            range(() -> whole(2, many), call, 0, k - 1);
        }
    }

    /** The call's number is a set of states of machine 0. */
    static void sets(Call call) {
        for (int n = 1; n <= 12; n++) {
            int many = n;
            Benches benches = () -> whole(many, 2);
            dueUnchanged("no state", benches.make(), call, 0, BAD);
            dueUnchanged("all states and one that is not there", benches.make(), call, (2 << n) - 1, BAD);
            for (int state = n; state < 32; state++) {
                dueUnchanged("just state " + state + " of " + n, benches.make(), call, 1 << state, BAD);
                dueUnchanged("states 0, " + state + " of " + n, benches.make(), call, 1 << state | 1, BAD);
            }
            for (int far : FAR_OFF) {
                if (far < 0 || far >= 1 << n) {
                    dueUnchanged(far + " is far off", benches.make(), call, far, BAD);
                }
            }
            for (int state = 0; state < n; state++) {
                holds("just state " + state + " is taken", call.of(benches.make(), 1 << state) != BAD);
            }
            holds("all states are taken", call.of(benches.make(), (1 << n) - 1) != BAD);
        }
        range(() -> whole(3, 2), call, 1, 7);
    }

    /** A machine of one sort: by letter 0 each state leads to the next one, by all others to 0. */
    static WordBench whole(int n, int k) {
        WordBench x = new WordBench();
        x.machine(n, k);
        for (int state = 0; state < n; state++) {
            for (int l = 0; l < k; l++) {
                x.move(0, state, l, l == 0 ? (state + 1) % n : 0);
            }
        }
        return x;
    }

    static WordBench with(int[][] moves) {
        WordBench x = new WordBench();
        Checks.machineOf(x, moves);
        return x;
    }

    static WordBench ringOf(int n) {
        WordBench x = new WordBench();
        x.ring(n);
        return x;
    }

    /** Puts the word, told as digits. */
    static void spell(WordBench x, String row) {
        x.empty();
        for (int i = 0; i < row.length(); i++) {
            x.letter(row.charAt(i) - '0');
        }
    }
}
