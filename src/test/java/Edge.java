import java.util.ArrayList;
import java.util.HashMap;
import java.util.List;
import java.util.Map;

/** Tests of edges: each of one promise and one sentence of the document, which it names when an answer is wrong. */
final class Edge {
    static final int NONE = QuoitBook.NONE;
    static final int UNKNOWN = QuoitBook.UNKNOWN;
    static final int OUTSIDE = QuoitBook.OUTSIDE;
    static final int NOT = QuoitBook.NOT;
    static final int FULL = QuoitBook.FULL;
    static final int LARGE = QuoitBook.LARGE;

    /** Numbers far out of any bounds, and such as come back into them if bits are lost. */
    private static final int[] FAR = {Integer.MIN_VALUE, Integer.MIN_VALUE + 1, -65536, -32768, -256, -128, -64, -32,
        -16, 16, 32, 64, 128, 256, 32768, 65536, 1 << 30, Integer.MAX_VALUE - 1, Integer.MAX_VALUE};

    interface Body {
        void run();
    }

    interface Run {
        void play(Calls x);
    }

    interface Ask {
        long of(Calls x);
    }

    interface AskWith {
        long of(Calls x, int n);
    }

    /** A test's place in the document. */
    record Named(int promise, String sentence) {
    }

    static final List<Named> TESTS = new ArrayList<>();
    private static final Map<Run, List<Long>> SEEN = new HashMap<>();

    private Edge() {
    }

    static void test(int promise, String sentence, Body body) {
        TESTS.add(new Named(promise, sentence));
        body.run();
    }

    static String current() {
        if (TESTS.isEmpty()) {
            return "no test";
        }
        Named now = TESTS.get(TESTS.size() - 1);
        return "promise " + now.promise + ", \"" + now.sentence + "\"";
    }

    static Calls behind(Run scene) {
        Calls x = new Calls();
        scene.play(x);
        return x;
    }

    /** The latest call of x answered got. */
    static void due(Calls x, long got, long want) {
        Due.due(got == want ? "" : current() + ": " + x.latest(), got, want);
    }

    static boolean isRefusal(long answer) {
        return answer <= UNKNOWN && answer >= LARGE;
    }

    static void letIn(Calls x, long got) {
        Due.due(current() + ": let in, " + x.latest() + " answered " + got + ", a refusal", isRefusal(got) ? 1 : 0, 0);
    }

    /** The call is refused behind the scene, and changes nothing. */
    static void refused(Run scene, long want, Ask call) {
        due(scene, want, call);
        unchanged(scene, call);
    }

    static void due(Run scene, long want, Ask call) {
        Calls x = behind(scene);
        due(x, call.of(x), want);
    }

    static void unchanged(Run scene, Ask call) {
        Run withCall = x -> {
            scene.play(x);
            call.of(x);
        };
        List<Long> before = SEEN.computeIfAbsent(scene, s -> new State(s, false).answers);
        if (!before.equals(new State(withCall, false).answers)) {
            Calls x = behind(withCall);
            Due.due(current() + ": " + x.latest() + " changed something: " + State.difference(scene, withCall), 1, 0);
        } else {
            Due.due("", 0, 0);
        }
    }

    /** The last number let in and the first that is not, on both sides, and some far out. */
    static void bounds(Run scene, int low, int high, long refusal, AskWith call) {
        for (int n : new int[] {low, high}) {
            Calls x = behind(scene);
            letIn(x, call.of(x, n));
        }
        outOf(scene, low, high, refusal, call);
    }

    /** Numbers beyond these are refused, and change nothing. */
    static void outOf(Run scene, int low, int high, long refusal, AskWith call) {
        refused(scene, refusal, x -> call.of(x, low - 1));
        refused(scene, refusal, x -> call.of(x, high + 1));
        List<Integer> far = farFrom(low, high);
        for (int n : far) {
            due(scene, refusal, x -> call.of(x, n));
        }
        unchanged(scene, x -> {
            far.forEach(n -> call.of(x, n));
            return 0;
        });
    }

    private static List<Integer> farFrom(int low, int high) {
        List<Integer> far = new ArrayList<>();
        for (int n : FAR) {
            for (int m : new int[] {n, low + n, high + n}) {
                if ((m < low || m > high) && !far.contains(m)) {
                    far.add(m);
                }
            }
        }
        return far;
    }
}
