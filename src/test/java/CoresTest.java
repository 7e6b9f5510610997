/** Promises 12, 13 and 14: what is said of cores. */
public final class CoresTest {
    public static void main(String[] args) {
        Check.test("state: repeated and persistent", CoresTest::stateOfAnAccess);
        Check.test("state: 0 no access under way", CoresTest::stateOfNoAccess);
        Check.test("state: least and greatest answer", CoresTest::stateLeastAndMost);
        Check.test("state: -1 when there is no core c, too small", () -> dueNoState(Check.TOO_SMALL));
        Check.test("state: -1 when there is no core c, too large", () -> dueNoState(Check.tooLarge(3)));
        Check.test("ended: how many", CoresTest::endedAndResult);
        Check.test("ended: 0 when none has", CoresTest::noneHasEnded);
        Check.test("ended: -1 when there is no core c, too small", () -> dueNoEnded(Check.TOO_SMALL));
        Check.test("ended: -1 when there is no core c, too large", () -> dueNoEnded(Check.tooLarge(3)));
        Check.test("result: of the access that ended latest", CoresTest::latestResult);
        Check.test("result: 0 when none has", CoresTest::noneHasEnded);
        Check.test("result: 0 when there is no core c, too small", () -> dueNoResult(Check.TOO_SMALL));
        Check.test("result: 0 when there is no core c, too large", () -> dueNoResult(Check.tooLarge(3)));
        Check.finish();
    }

    /** Every core of three has 17 as its result. */
    private static TokenMesh lively() {
        TokenMesh x = new TokenMesh(3, 0, 1);
        Check.writeFromHome(x, 3, 2, 0, 17);
        x.issue(2, false, 0, 0);
        Check.readFrom(x, 2, 0, 0);
        Check.readFrom(x, 2, 1, 0);
        return x;
    }

    private static void stateOfAnAccess() {
        TokenMesh x = new TokenMesh(2, 2, 2);
        x.issue(1, false, 0, 0);
        Check.due("under way", x.state(1), 1);
        x.tick(2);
        Check.due("repeated once", x.state(1), 2);
        x.tick(2);
        Check.due("repeated twice", x.state(1), 3);
        x.tick(2);
        Check.due("persistent", x.state(1), 3 + 8);
        Check.due("the other core", x.state(0), 0);
        Check.bring(x, Check.read(1, 2, 0));
        Check.bring(x, Check.copy(2, 1, 0, 1));
        Check.due("ended", x.state(1), 0);
    }

    private static void stateOfNoAccess() {
        TokenMesh x = new TokenMesh(2, 0, 1);
        Check.due("none yet", x.state(0), 0);
        x.issue(0, true, 0, 0);
        x.tick(1);
        Check.due("persistent", x.state(0), 9);
        Check.bring(x, Check.write(0, 2, 0));
        Check.bring(x, Check.owner(2, 0, 0, 3));
        Check.due("a persistent one has ended", x.state(0), 0);
        x.issue(0, true, 0, 1);
        Check.due("one has ended at once", x.state(0), 0);
    }

    private static void stateLeastAndMost() {
        TokenMesh x = new TokenMesh(4, 4, 1);
        x.issue(3, false, 0, 0);
        Check.due("repeated no times", x.state(3), 1);
        x.tick(4);
        Check.due("repeated four times", x.state(3), 5);
        x.tick(1);
        Check.due("and persistent", x.state(3), 13);
        x.tick(50);
        Check.due("no more than that", x.state(3), 13);
    }

    private static void dueNoState(int[] cores) {
        TokenMesh x = lively();
        for (int c : cores) {
            Check.due("state(" + c + ")", x.state(c), -1);
        }
        Check.due("the last core", x.state(2), 0);
    }

    private static void endedAndResult() {
        TokenMesh x = new TokenMesh(2, 0, 9);
        Check.writeFromHome(x, 2, 0, 0, 5);
        Check.due("ended", x.ended(0), 1);
        Check.due("result of a write is what was there", x.result(0), 0);
        x.issue(0, true, 0, 6);
        Check.due("ended", x.ended(0), 2);
        Check.due("result", x.result(0), 5);
        x.issue(0, false, 0, 0);
        Check.due("ended", x.ended(0), 3);
        Check.due("result", x.result(0), 6);
        x.issue(0, false, 1, 0);
        Check.due("under way does not count", x.ended(0), 3);
        Check.bring(x, Check.read(0, 2, 1));
        Check.bring(x, Check.copy(2, 0, 1, 1));
        Check.due("ended", x.ended(0), 4);
        Check.due("the other core", x.ended(1), 0);
    }

    private static void noneHasEnded() {
        TokenMesh x = new TokenMesh(2, 0, 9);
        Check.due("ended, new", x.ended(0), 0);
        Check.due("result, new", x.result(0), 0);
        Check.writeFromHome(x, 2, 1, 0, 5);
        x.issue(1, false, 0, 0);
        x.issue(0, true, 0, 77);
        Check.due("ended, under way", x.ended(0), 0);
        Check.due("result, under way", x.result(0), 0);
        Check.due("ended of the other", x.ended(1), 2);
        Check.due("result of the other", x.result(1), 5);
    }

    private static void dueNoEnded(int[] cores) {
        TokenMesh x = lively();
        for (int c : cores) {
            Check.due("ended(" + c + ")", x.ended(c), -1);
        }
        Check.due("the last core", x.ended(2), 2);
    }

    private static void latestResult() {
        TokenMesh x = lively();
        x.issue(0, true, 1, 4);
        Check.due("under way does not count", x.result(0), 17);
        Check.bring(x, Check.write(0, 3, 1));
        Check.bring(x, Check.owner(3, 0, 1, 4));
        Check.due("the latest", x.result(0), 0);
        x.issue(0, false, 0, 0);
        Check.due("the latest", x.result(0), 17);
        Check.due("another core", x.result(1), 17);
    }

    private static void dueNoResult(int[] cores) {
        TokenMesh x = lively();
        for (int c : cores) {
            Check.due("result(" + c + ")", x.result(c), 0);
        }
        for (int c = 0; c < 3; c++) {
            Check.due("result(" + c + ")", x.result(c), 17);
        }
    }
}
