/** Promises 12, 13 and 14: what is said of cores. */
public final class CoresTest {
    public static void main(String[] args) {
        noSuch();
        stateOfAnAccess();
        endedAndResult();
        Check.finish();
    }

    private static void noSuch() {
        TokenMesh x = new TokenMesh(3, 0, 1);
        Check.writeFromHome(x, 3, 2, 0, 17);
        x.issue(2, false, 0, 0);
        int[] noCores = {Integer.MIN_VALUE, -1, 3, 4, Integer.MAX_VALUE};
        for (int c : noCores) {
            Check.due("state of " + c, x.state(c), -1);
            Check.due("ended of " + c, x.ended(c), -1);
            Check.due("result of " + c, x.result(c), 0);
        }
        Check.due("result of 2", x.result(2), 17);
    }

    private static void stateOfAnAccess() {
        TokenMesh x = new TokenMesh(2, 2, 2);
        Check.due("none", x.state(1), 0);
        x.issue(1, false, 0, 0);
        Check.due("under way", x.state(1), 1);
        x.tick(2);
        Check.due("repeated once", x.state(1), 2);
        x.tick(2);
        Check.due("repeated twice", x.state(1), 3);
        x.tick(2);
        Check.due("persistent", x.state(1), 3 + 8);
        Check.due("the other core", x.state(0), 0);
        Check.bring(x, Check.read(1, 2, 0));
        Check.bring(x, Check.copy(2, 1, 0, 1));
        Check.due("ended", x.state(1), 0);
    }

    private static void endedAndResult() {
        TokenMesh x = new TokenMesh(2, 0, 9);
        Check.writeFromHome(x, 2, 0, 0, 5);
        Check.due("ended", x.ended(0), 1);
        Check.due("result of a write is what was there", x.result(0), 0);
        x.issue(0, true, 0, 6);
        Check.due("ended", x.ended(0), 2);
        Check.due("result", x.result(0), 5);
        x.issue(0, false, 0, 0);
        Check.due("ended", x.ended(0), 3);
        Check.due("result", x.result(0), 6);
        x.issue(0, false, 1, 0);
        Check.due("under way does not count", x.ended(0), 3);
        Check.due("the latest that ended", x.result(0), 6);
        Check.bring(x, Check.read(0, 2, 1));
        Check.bring(x, Check.copy(2, 0, 1, 1));
        Check.due("ended", x.ended(0), 4);
        Check.due("result", x.result(0), 0);
        Check.due("the other core", x.ended(1), 0);
    }
}
