import java.lang.reflect.Method;
import java.util.Random;
import java.util.Set;
import java.util.TreeSet;

/**
 * Runs of calls by fixed seeds, ordinary and wrong arguments mixed, on LampCave and on Model: every answer, and asked(),
 * finding() and digest() behind it, must be the same, and nothing may be thrown. All runs together must have seen each
 * refusal and each NONE that the document names, and no other.
 */
public final class ModelTest {
    private static final String KINDS = "pcklsg";
    /** An object is used for so many calls at most; what later ones answer is free. */
    private static final int MOST_CALLS = 512;

    /** A call's name, how often it is made, and the arguments that it is mostly given, from and to each. */
    private static final Object[][] CALLS = {
        {"row", 4, 0, 5, 0, 60}, {"lay", 8, 0, 5, 0, 12, 0, 4}, {"at", 4, 0, 5, 0, 12}, {"tear", 1, 0, 5},
        {"copy", 4, 0, 5, 0, 12, 0, 5, 0, 12, 0, 10}, {"mean", 3, 0, 5}, {"text", 1, 0, 3, 0, 80},
        {"put", 4, 0, 3, 0, 40, -200, 300}, {"fault", 4, 0, 3}, {"cave", 1, 0, 3}, {"person", 3, 0, 4, 0, 5},
        {"mark", 6, 0, 4, 1, 5}, {"law", 6, 0, 3}, {"oil", 4, 0, 20}, {"fear", 6, 0, 4, 0, 20}, {"minutes", 6, 0, 12},
        {"hand", 8, 0, 4}, {"next", 4}, {"had", 3, 0, 20}, {"undo", 4, 0, 12}, {"over", 3}, {"story", 4, 0, 4},
        {"song", 3, 1, 99}, {"keep", 3, 0, 2}, {"on", 3, 0, 2}, {"holds", 5, 0, 3}, {"best", 3}, {"rest", 5},
        {"worst", 3, 0, 60}, {"often", 3, 0, 4, 0, 60}, {"longest", 2, 0, 5}, {"calmest", 2, 0, 6, 0, 5},
        {"order", 2, 0, 5}, {"swap", 2}, {"spare", 2, 0, 60}, {"teller", 3}, {"judge", 6, 0, 5}, {"liars", 5, 0, 5},
        {"grows", 5, 0, 4, 0, 5}, {"fears", 5, 0, 4, 0, 5}, {"tell", 6, 0, 3, 0, 12, 0, 5},
        {"visit", 4, 1, 60, 1, 2147483646}, {"asked", 1}, {"upper", 1}, {"lower", 1}, {"count", 2, 0, 7},
        {"finding", 1}, {"findings", 1, 1, 5}, {"digest", 1},
    };

    /** Instead of those above, in a patient run: MINUTE 120 is not reached without. */
    private static final Object[][] PATIENT_CALLS = {
        {"minutes", 30, 0, 60}, {"undo", 4, 0, 119}, {"had", 3, 0, 119}, {"tell", 6, 0, 3, 0, 60, 0, 5}, {"oil", 4, 0, 99},
        {"fear", 2, 0, 4, 0, 9},
    };

    /** What each call may answer below 0, by the document; a call that is not here tells numbers of any kind, or none. */
    private static final String[] REFUSALS = {
        "row BAD SIZE", "lay BAD NOTHING BEYOND", "at BAD NOTHING BEYOND", "tear BAD NOTHING",
        "copy BAD SIZE NOTHING BEYOND", "mean BAD NOTHING NOUGHT", "text BAD SIZE", "put BAD NOTHING BEYOND",
        "fault BAD NOTHING NONE", "cave BAD NOTHING STATE", "person BAD", "mark BAD UNLIKE", "law BAD STATE",
        "oil BAD STATE", "fear BAD", "minutes BAD STATE FULL", "hand BAD STATE FULL", "next STATE", "had BAD BEYOND",
        "undo BAD", "over", "story BAD STATE", "song BAD STATE", "keep BAD STATE", "on BAD NOTHING",
        "holds BAD STATE NONE", "best STATE", "rest STATE NONE", "worst BAD STATE", "often BAD", "longest BAD STATE",
        "calmest BAD STATE NONE", "order BAD STATE NONE", "swap STATE NONE", "spare BAD STATE NONE", "teller STATE",
        "judge BAD STATE NOTHING UNLIKE", "liars BAD STATE NOTHING UNLIKE", "grows BAD NOTHING UNLIKE",
        "fears BAD NOTHING UNLIKE", "tell BAD STATE", "visit BAD STATE", "upper", "lower", "count BAD", "finding",
        "findings BAD",
    };
    private static final String[] FINDINGS = {"", "NOTHING", "BEYOND", "UNLIKE", "NOUGHT", "SIZE"};
    private static final int USUAL_RUNS = 800;

    private final boolean patient;
    private final Set<String> seen;
    private final Random random;
    private final LampCave cave = new LampCave();
    private final Model model = new Model();
    private int calls = 0;

    private ModelTest(int seed, Set<String> seen) {
        random = new Random(seed);
        patient = seed % 4 == 0;
        this.seen = seen;
    }

    public static void main(String[] args) throws Exception {
        int runs = args.length > 0 ? Integer.parseInt(args[0]) : USUAL_RUNS;
        Set<String> seen = new TreeSet<>();
        for (int seed = 1; seed <= runs; seed++) {
            new ModelTest(seed, seen).run(seed);
        }
        // Fewer runs may well miss one.
        if (runs >= USUAL_RUNS) {
            compareRefusals(seen);
        }
        Check.end();
    }

    private static void compareRefusals(Set<String> seen) {
        Set<String> due = new TreeSet<>();
        for (String line : REFUSALS) {
            String[] words = line.split(" ");
            for (int i = 1; i < words.length; i++) {
                due.add(words[0] + " " + words[i]);
            }
        }
        for (String each : due) {
            Check.that("seen in some run: " + each, seen.contains(each));
        }
        for (String each : seen) {
            Check.that("named by the document: " + each, due.contains(each));
        }
    }

    private void run(int seed) throws Exception {
        for (int k = 0; k < 150; k++) {
            if (k == 2 || random.nextInt(patient ? 400 : 40) == 0) {
                writeCave(seed);
            }
            if (random.nextInt(25) == 0) {
                layHandings(seed);
            }
            Object[] call = pick();
            int[] given = new int[(call.length - 2) / 2];
            for (int i = 0; i < given.length; i++) {
                given[i] = argument((Integer) call[2 + 2 * i], (Integer) call[3 + 2 * i]);
            }
            look(make(seed, (String) call[0], given));
        }
    }

    private Object[] pick() {
        int all = 0;
        for (Object[] call : CALLS) {
            all += (Integer) asCalled(call)[1];
        }
        int at = random.nextInt(all);
        for (Object[] call : CALLS) {
            at -= (Integer) asCalled(call)[1];
            if (at < 0) {
                return asCalled(call);
            }
        }
        return CALLS[0];
    }

    private Object[] asCalled(Object[] call) {
        for (Object[] other : PATIENT_CALLS) {
            if (patient && other[0].equals(call[0])) {
                return other;
            }
        }
        return call;
    }

    private int argument(int from, int to) {
        int[] wrong = {from - 1, to + 1, -1, 0, 60, 61, 99, 100, 120, Integer.MIN_VALUE, Integer.MAX_VALUE, random.nextInt()};
        return random.nextInt(12) == 0 ? wrong[random.nextInt(wrong.length)]
            : (int) (from + (long) (random.nextDouble() * ((long) to - from + 1)));
    }

    /** A TEXT with a CAVE, sometimes with one sign that does not belong there or cut short, and the CAVE by it. */
    private void writeCave(int seed) throws Exception {
        StringBuilder signs = new StringBuilder(blanks());
        signs.append('w').append("ro".charAt(random.nextInt(2))).append(random.nextInt(4)).append(random.nextInt(10));
        int many = random.nextInt(20) == 0 ? random.nextInt(7) : 1 + random.nextInt(5);
        int wildest = 1 + random.nextInt(patient ? 3 : 10);
        for (int x = 0; x < many; x++) {
            signs.append(blanks()).append(KINDS.charAt(random.nextInt(6))).append(random.nextInt(10));
            signs.append(random.nextInt(wildest)).append(random.nextInt(wildest)).append(9 - random.nextInt(wildest > 8 ? 9 : 4));
        }
        signs.append(blanks());
        if (random.nextInt(5) == 0) {
            signs.setCharAt(random.nextInt(signs.length()), (char) (32 + random.nextInt(220)));
        }
        if (random.nextInt(8) == 0) {
            signs.setLength(random.nextInt(signs.length()));
        }
        int t = random.nextInt(4);
        make(seed, "text", t, signs.length());
        for (int i = 0; i < signs.length(); i++) {
            make(seed, "put", t, i, signs.charAt(i));
        }
        make(seed, "fault", t);
        look(make(seed, "cave", t));
    }

    private String blanks() {
        return " ".repeat(random.nextInt(3));
    }

    private void layHandings(int seed) throws Exception {
        int r = random.nextInt(6);
        int size = random.nextInt(7);
        make(seed, "row", r, size);
        for (int i = 0; i < size; i++) {
            make(seed, "lay", r, i, random.nextInt(Math.max(1, model.count(0))));
        }
        look(make(seed, "judge", r));
        look(make(seed, "liars", r));
    }

    /** Makes the call on both, if the object may still be used; tells how it was made. */
    private String make(int seed, String name, int... given) throws Exception {
        Class<?>[] types = new Class<?>[given.length];
        Object[] values = new Object[given.length];
        StringBuilder call = new StringBuilder("seed " + seed + ": " + name + "(");
        for (int i = 0; i < given.length; i++) {
            types[i] = int.class;
            values[i] = given[i];
            call.append(i == 0 ? "" : ", ").append(given[i]);
        }
        call.append(")");
        if (mayCall(1)) {
            long got = answer(LampCave.class, cave, name, types, values);
            Check.due(call.toString(), got, answer(Model.class, model, name, types, values));
            note(name, got);
        }
        return call.toString();
    }

    private void note(String name, long got) {
        for (String line : REFUSALS) {
            if (got < 0 && line.split(" ")[0].equals(name)) {
                seen.add(name + " " + refusal(got));
            }
        }
    }

    /** finding() may be asked for freely here: it is no call of the run, but one on the model. */
    private String refusal(long got) {
        switch ((int) got) {
            case Check.BAD:
                return "BAD";
            case Check.FULL:
                return "FULL";
            case Check.STATE:
                return "STATE";
            case Check.FINDING:
                return FINDINGS[model.finding()];
            case Check.NONE:
                return "NONE";
            default:
                return Long.toString(got);
        }
    }

    private void look(String call) {
        if (mayCall(3)) {
            Check.due(call + ": asked()", cave.asked(), model.asked());
            Check.due(call + ": finding()", cave.finding(), model.finding());
            Check.due(call + ": digest()", cave.digest(), model.digest());
        }
    }

    private boolean mayCall(int more) {
        calls += more;
        return calls <= MOST_CALLS;
    }

    private static long answer(Class<?> type, Object of, String name, Class<?>[] types, Object[] values) throws Exception {
        Method method = type.getDeclaredMethod(name, types);
        method.setAccessible(true);
        return ((Number) method.invoke(of, values)).longValue();
    }
}
