import java.util.Map;
import java.util.function.Supplier;

/**
 * No call throws, whatever ints it is asked with: all calls with all choices of these, in a new hall, a
 * busy one and a full one. An answer is one of the five findings, or above all of them.
 */
public final class AnyIntsTest {
    private static final Due due = new Due("AnyIntsTest");
    private static final int[] INTS = {Integer.MIN_VALUE, -1, 0, 1, 2, 19, 28, 101, 30000, 30001, 1 << 20, Integer.MAX_VALUE};
    private static final Map<String, Integer> ARGUMENTS = Map.ofEntries(Map.entry("person", 3), Map.entry("as", 2),
        Map.entry("licence", 2), Map.entry("part", 3), Map.entry("worth", 4), Map.entry("way", 2), Map.entry("rule", 5),
        Map.entry("force", 3), Map.entry("has", 4), Map.entry("why", 4), Map.entry("panel", 5), Map.entry("give", 5),
        Map.entry("entry", 2), Map.entry("stands", 2), Map.entry("strike", 3), Map.entry("unstrike", 0),
        Map.entry("wait", 1), Map.entry("go", 0), Map.entry("best", 3), Map.entry("given", 1), Map.entry("exam", 0),
        Map.entry("mark", 3), Map.entry("middle", 1), Map.entry("apart", 2), Map.entry("hard", 1), Map.entry("tell", 1),
        Map.entry("check", 1), Map.entry("count", 1), Map.entry("found", 1));
    /** An object is used for 512 calls, of which the full hall takes 286. */
    private static final int CALLS = 220;

    public static void main(String[] args) {
        all(BeltHall::new);
        all(Halls::busy);
        all(Halls::full);
        due.end();
    }

    private static void all(Supplier<BeltHall> hall) {
        BeltHall x = hall.get();
        int calls = 0;
        for (String call : Face.CALLS) {
            int[] a = new int[ARGUMENTS.get(call)];
            int wrong = 0;
            int ways = (int) Math.pow(INTS.length, a.length);
            for (int way = 0; way < ways; way++) {
                choose(a, way);
                if (calls++ == CALLS) {
                    x = hall.get();
                    calls = 1;
                }
                int answer = Face.ask(x, call, a);
                boolean isFinding = answer >= -1000005 && answer <= -1000001;
                // Nothing but HARD is below -1: 20 marks of 0, where the middle is 100.
                wrong += isFinding || answer >= -2000 ? 0 : 1;
            }
            due.is(call + ": answers that are none", wrong, 0);
        }
    }

    private static void choose(int[] a, int way) {
        int rest = way;
        for (int i = 0; i < a.length; i++) {
            a[i] = INTS[rest % INTS.length];
            rest /= INTS.length;
        }
    }
}
