import java.lang.reflect.Method;
import java.util.ArrayDeque;
import java.util.ArrayList;
import java.util.Deque;
import java.util.HashMap;
import java.util.List;
import java.util.Map;
import java.util.Random;

/** Runs of calls by fixed seeds: the program and the oracle must answer the same to every call. */
public final class OracleTest {
    private static final int CALLS = 512;
    private static final int TOLD_WRONG = 20;

    /** A call's arguments, a letter each: p one of people, c cell, w what, the others by argument(). */
    private static final String[] FACE = {"moor ", "person pw", "owns p", "loan pp", "go pc", "lend ppl", "keep pk",
        "need pl", "sum s", "days d", "behind pnw", "firstShort w", "lasts p", "bestCell pw", "takes pp", "worst p",
        "newcomer cw", "leaves w", "enough ", "help tw", "net p", "loans w", "survey c", "bestSurvey ",
        "quarrel pptw", "two pp", "crowd w", "raise ", "easter ppn", "whatIs pw", "row v", "judge p", "clear ",
        "lots mzw", "image ", "on ", "count q", "letter a"};

    private final Random random;
    private final boolean wild;
    private final AloneIsAQuantity program = new AloneIsAQuantity();
    private final Oracle oracle = new Oracle();
    private final Deque<Integer> letters = new ArrayDeque<>();
    private final List<String> calls = new ArrayList<>();
    private static final Map<String, Method> METHODS = new HashMap<>();

    private OracleTest(int seed) {
        random = new Random(seed);
        wild = seed % 4 == 3;
    }

    public static void main(String[] args) throws Exception {
        int runs = args.length > 0 ? Integer.parseInt(args[0]) : 600;
        int first = args.length > 1 ? Integer.parseInt(args[1]) : 0;
        for (Method m : AloneIsAQuantity.class.getDeclaredMethods()) {
            METHODS.put(m.getName(), m);
        }
        int wrong = 0;
        for (int seed = first; seed < first + runs && wrong < TOLD_WRONG; seed++) {
            wrong += new OracleTest(seed).run(seed) ? 0 : 1;
        }
        System.out.println("OracleTest: " + runs + " runs, " + wrong + " wrong");
        if (wrong > 0) {
            System.exit(1);
        }
    }

    private boolean run(int seed) throws Exception {
        for (int i = 0; i < CALLS; i++) {
            String name;
            int[] args;
            if (!letters.isEmpty()) {
                int next = letters.poll();
                name = next == -1 ? "moor" : "letter";
                args = next == -1 ? new int[0] : new int[] {next};
            } else if (oracle.call("count", 0) < 2 && random.nextInt(4) == 0 || random.nextInt(60) == 0) {
                tell();
                continue;
            } else if (random.nextInt(25) == 0 && oracle.call("count", 0) > 0) {
                if (!tellRow()) {
                    return false;
                }
                continue;
            } else {
                String[] face = FACE[random.nextInt(FACE.length)].split(" ", -1);
                name = face[0];
                args = new int[face[1].length()];
                for (int k = 0; k < args.length; k++) {
                    args[k] = argument(face[1].charAt(k));
                }
            }
            if (!same(seed, name, args)) {
                return false;
            }
        }
        return true;
    }

    private boolean same(int seed, String name, int... args) throws Exception {
        Object[] boxed = new Object[args.length];
        StringBuilder call = new StringBuilder(name);
        for (int i = 0; i < args.length; i++) {
            boxed[i] = args[i];
            call.append(' ').append(args[i]);
        }
        int got = (Integer) METHODS.get(name).invoke(program, boxed);
        int want = oracle.call(name, args);
        calls.add(call + " -> " + got);
        if (got == want) {
            return true;
        }
        System.out.println("seed " + seed + ": call " + calls.size() + " " + call + " answered " + got
                + ", the oracle says " + want);
        System.out.println("  " + calls.subList(Math.max(0, calls.size() - 60), calls.size()));
        return false;
    }

    /** A row that is often as it must be: shares for whatIs, kept for judge. */
    private boolean tellRow() throws Exception {
        boolean right = same(-1, "clear");
        int people = oracle.call("count", 0);
        int one = random.nextInt(people);
        boolean days = random.nextBoolean();
        int length = days ? random.nextInt(12) + 1 : people;
        for (int i = 0; i < length; i++) {
            int v = days ? oracle.call("behind", one, i, 0) : oracle.call("person", i, 6);
            v = Math.min(99, v) + (random.nextInt(20) == 0 ? 1 : 0);
            right &= same(-1, "row", v);
        }
        for (int i = 0; i < people && !days; i++) {
            right &= same(-1, "whatIs", i, 0) & same(-1, "whatIs", i, 1);
        }
        return right && (!days || same(-1, "judge", one));
    }

    private int argument(char sort) {
        if (random.nextInt(wild ? 12 : 60) == 0) {
            int[] odd = {-1, -2, Integer.MIN_VALUE, Integer.MAX_VALUE, 1 << 30, 0, 1, 5, 6, 7, 10, 11, 12, 20, 21, 35, 36,
                60, 61, 99, 100, 255, 256, 999, 1000, 9999, 10000};
            return odd[random.nextInt(odd.length)];
        }
        int people = oracle.call("count", 0);
        switch (sort) {
            case 'p': return random.nextInt(random.nextInt(12) == 0 ? 8 : Math.max(1, people));
            case 'c': return random.nextInt(36);
            case 'w': return random.nextInt(random.nextInt(8) == 0 ? 8 : 3);
            case 'l': return random.nextInt(random.nextBoolean() ? 100 : 12);
            case 'k': return random.nextInt(random.nextBoolean() ? 10000 : 200);
            case 's': return random.nextInt(random.nextBoolean() ? 1000 : 100);
            case 'd': return random.nextInt(random.nextBoolean() ? 62 : 4);
            case 'n': return random.nextInt(random.nextBoolean() ? 100 : 20);
            case 't': return random.nextInt(random.nextInt(8) == 0 ? 12 : 8);
            case 'v': return random.nextInt(100);
            case 'm': return random.nextInt(22);
            case 'z': return random.nextInt();
            case 'q': return random.nextInt(20);
            default: return random.nextInt(256);
        }
    }

    private void tell() {
        StringBuilder t = new StringBuilder();
        int statements = 1 + random.nextInt(9);
        int people = oracle.call("count", 0);
        for (int i = 0; i < statements; i++) {
            int sort = random.nextInt(people < 3 ? 1 : 8);
            int some = Math.max(1, people) + (random.nextInt(20) == 0 ? 1 : 0);
            int one = random.nextInt(some);
            int cells = random.nextInt(40) == 0 ? 40 : 36;
            switch (sort) {
                case 0: case 6: case 7:
                    if (people < 6 || random.nextInt(12) == 0) {
                        t.append(String.format("p%c%d%02d%02d;", "pswcon".charAt(random.nextInt(6)), random.nextInt(10),
                                random.nextInt(cells), random.nextInt(random.nextBoolean() ? 100 : 50)));
                        people++;
                    }
                    break;
                case 1: t.append(String.format("a%d%02d;", one, random.nextInt(cells))); break;
                case 2: t.append(String.format("l%d%d%02d;", one, random.nextInt(some), random.nextInt(100))); break;
                case 3: t.append(String.format("k%d%04d;", one, random.nextInt(random.nextBoolean() ? 300 : 10000))); break;
                case 4: t.append(String.format("s%03d;", random.nextInt(1000))); break;
                default: t.append(String.format("d%02d;", random.nextInt(random.nextInt(10) == 0 ? 70 : 20)));
            }
        }
        if (random.nextInt(4) == 0 && t.length() > 0) {
            int at = random.nextInt(t.length());
            switch (random.nextInt(4)) {
                case 0: t.deleteCharAt(at); break;
                case 1: t.insert(at, "pswconaldk0;9x".charAt(random.nextInt(14))); break;
                case 2: t.setLength(at); break;
                default: t.setCharAt(at, "pswconaldk0;9x".charAt(random.nextInt(14)));
            }
        }
        for (int i = 0; i < t.length(); i++) {
            letters.add((int) t.charAt(i));
        }
        letters.add(-1);
    }
}
