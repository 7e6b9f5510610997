import java.util.LinkedHashMap;
import java.util.Map;
import java.util.function.Consumer;

/**
 * "A call that is refused (a negative number, or false) changes nothing." Two objects go through
 * the same calls, but one is given calls that are refused as well; then both go on, so that a
 * change shows even if no question tells it at once (the time, an access's value, ..).
 */
public final class RefusedTest {
    private static final int CORES = 3;
    private static final int STEPS_ON = 45;

    public static void main(String[] args) {
        Map<String, Consumer<TokenMesh>> scenes = new LinkedHashMap<>();
        scenes.put("new", x -> { });
        scenes.put("asked", RefusedTest::asked);
        scenes.put("tokens spread", RefusedTest::tokensSpread);
        scenes.put("persistent", RefusedTest::persistent);
        Map<String, Consumer<TokenMesh>> refusals = new LinkedHashMap<>();
        refusals.put("issue, no core", RefusedTest::issueByNoCore);
        refusals.put("issue, no block", RefusedTest::issueOfNoBlock);
        refusals.put("issue, an access is under way", RefusedTest::issueWhileBusy);
        refusals.put("tick, n too small", x -> ticks(x, Integer.MIN_VALUE, -50, -1, 0));
        refusals.put("tick, n too large", x -> ticks(x, 51, 100, Integer.MAX_VALUE));
        refusals.put("deliver, no such place", RefusedTest::deliverOfNone);
        refusals.put("evict, no core", RefusedTest::evictByNoCore);
        refusals.put("evict, no block", RefusedTest::evictOfNoBlock);
        refusals.put("evict, no token or an access of it", RefusedTest::evictOfNothing);
        refusals.put("questions of what is not there", RefusedTest::questions);
        for (Map.Entry<String, Consumer<TokenMesh>> r : refusals.entrySet()) {
            for (Map.Entry<String, Consumer<TokenMesh>> s : scenes.entrySet()) {
                String name = r.getKey() + "; " + s.getKey();
                Check.test(name, () -> changesNothing(s.getValue(), r.getValue()));
            }
        }
        Check.test("questions that are answered change nothing, too",
                () -> changesNothing(RefusedTest::persistent, x -> same("itself", x, x)));
        Check.finish();
    }

    private static void changesNothing(Consumer<TokenMesh> scene, Consumer<TokenMesh> refused) {
        TokenMesh x = new TokenMesh(CORES, 1, 2);
        TokenMesh y = new TokenMesh(CORES, 1, 2);
        scene.accept(x);
        scene.accept(y);
        refused.accept(x);
        same("at once", x, y);
        for (int k = 0; k < STEPS_ON; k++) {
            Check.due("step " + k + " after it", goOn(x, k), goOn(y, k));
        }
        same("in the end", x, y);
    }

    /** A call that depends on k and on how many letters wait. */
    private static int goOn(TokenMesh x, int k) {
        int waiting = x.letters();
        if (k % 4 == 0 || waiting == 0 && k % 2 == 0) {
            return x.tick(1);
        }
        if (k % 9 == 5 || waiting == 0) {
            return x.issue(k % CORES, k % 2 == 0, k / 2 % 2, 1000 + k);
        }
        if (k % 13 == 7) {
            return x.evict(k % CORES, k % 2) ? 1 : 0;
        }
        return x.deliver(k % 3 == 0 ? 0 : waiting - 1);
    }

    private static void same(String when, TokenMesh x, TokenMesh y) {
        int waiting = y.letters();
        Check.due(when + ", letters", x.letters(), waiting);
        for (int i = 0; i < waiting; i++) {
            Check.due(when + ", letter " + i, x.letter(i), y.letter(i));
        }
        for (int b = 0; b < 2; b++) {
            for (int node = 0; node <= CORES; node++) {
                Check.due(when + ", tokens", x.tokens(node, b), y.tokens(node, b));
                Check.due(when + ", data", x.data(node, b), y.data(node, b));
                Check.due(when + ", knows", x.knows(node, b), y.knows(node, b));
            }
            Check.due(when + ", row", x.row(b), y.row(b));
            Check.due(when + ", memory", x.memory(b), y.memory(b));
        }
        for (int c = 0; c < CORES; c++) {
            Check.due(when + ", state", x.state(c), y.state(c));
            Check.due(when + ", ended", x.ended(c), y.ended(c));
            Check.due(when + ", result", x.result(c), y.result(c));
        }
    }

    // Scenes

    private static void asked(TokenMesh x) {
        x.issue(0, true, 0, 5);
        x.issue(1, false, 1, 0);
        x.tick(1);
        x.issue(2, true, 0, 6);
    }

    /** Core 0 has the owner of block 0 and core 1 a copy, with which it wants to write. */
    private static void tokensSpread(TokenMesh x) {
        Check.writeFromHome(x, 3, 0, 0, 5);
        Check.readFrom(x, 0, 1, 0);
        x.issue(1, true, 0, 7);
        x.issue(2, false, 1, 0);
        Check.bring(x, Check.read(2, 3, 1));
        x.tick(1);
    }

    /** Core 1 is served by the arbiter, core 0 stands in the row, core 2 has just pleaded. */
    private static void persistent(TokenMesh x) {
        Check.readFrom(x, 3, 2, 0);
        for (int c = 0; c < CORES; c++) {
            x.issue(c, c != 1, 0, 20 + c);
        }
        x.tick(4);
        Check.bring(x, Check.please(1, 3, 0));
        Check.bring(x, Check.please(0, 3, 0));
        Check.bring(x, Check.know(3, 2, 0));
    }

    // Calls that are refused in every scene

    private static void issueByNoCore(TokenMesh x) {
        for (int c : new int[] {Integer.MIN_VALUE, -1, CORES, CORES + 1, Integer.MAX_VALUE}) {
            Check.due("issue by " + c, x.issue(c, true, 0, 99), -1);
            Check.due("issue by " + c, x.issue(c, false, 1, 99), -1);
        }
    }

    private static void issueOfNoBlock(TokenMesh x) {
        for (int b : new int[] {Integer.MIN_VALUE, -1, 2, 3, Integer.MAX_VALUE}) {
            for (int c = 0; c < CORES; c++) {
                Check.due("issue of " + b, x.issue(c, c != 0, b, 99), -1);
            }
        }
    }

    private static void issueWhileBusy(TokenMesh x) {
        for (int c = 0; c < CORES; c++) {
            if (x.state(c) > 0) {
                for (int b = 0; b < 2; b++) {
                    Check.due("read by " + c, x.issue(c, false, b, 98), -2);
                    Check.due("write by " + c, x.issue(c, true, b, 99), -2);
                }
            }
        }
    }

    private static void ticks(TokenMesh x, int... bad) {
        for (int n : bad) {
            Check.due("tick(" + n + ")", x.tick(n), -1);
        }
    }

    private static void deliverOfNone(TokenMesh x) {
        int waiting = x.letters();
        for (int i : new int[] {Integer.MIN_VALUE, -1, waiting, waiting + 1, Integer.MAX_VALUE}) {
            Check.due("deliver(" + i + ")", x.deliver(i), -1);
        }
    }

    private static void evictByNoCore(TokenMesh x) {
        for (int c : new int[] {Integer.MIN_VALUE, -1, CORES, CORES + 1, Integer.MAX_VALUE}) {
            Check.due("evict by " + c, x.evict(c, 0), false);
            Check.due("evict by " + c, x.evict(c, 1), false);
        }
    }

    private static void evictOfNoBlock(TokenMesh x) {
        for (int b : new int[] {Integer.MIN_VALUE, -1, 2, 3, Integer.MAX_VALUE}) {
            for (int c = 0; c < CORES; c++) {
                Check.due("evict of " + b, x.evict(c, b), false);
            }
        }
    }

    /** In the scene of spread tokens core 0 alone can evict; in the others nobody can. */
    private static void evictOfNothing(TokenMesh x) {
        for (int c = 0; c < CORES; c++) {
            for (int b = 0; b < 2; b++) {
                if (x.tokens(c, b) == 0 || x.state(c) > 0) {
                    Check.due("evict by " + c, x.evict(c, b), false);
                }
            }
        }
    }

    private static void questions(TokenMesh x) {
        for (int none : new int[] {Integer.MIN_VALUE, -1, CORES + 1, Integer.MAX_VALUE}) {
            Check.due("tokens", x.tokens(none, 0), -1);
            Check.due("tokens", x.tokens(0, none), -1);
            Check.due("data", x.data(none, 0), 0);
            Check.due("data", x.data(0, none), 0);
            Check.due("knows", x.knows(none, 0), -2);
            Check.due("knows", x.knows(0, none), -2);
            Check.due("row", x.row(none), -1);
            Check.due("state", x.state(none), -1);
            Check.due("ended", x.ended(none), -1);
            Check.due("result", x.result(none), 0);
            Check.due("memory", x.memory(none), 0);
        }
        Check.due("letter", x.letter(-1), -1);
        Check.due("letter", x.letter(x.letters()), -1);
    }
}
