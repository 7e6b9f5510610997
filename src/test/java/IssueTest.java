/** Promise 2. */
public final class IssueTest {
    public static void main(String[] args) {
        Check.test("to ask: all other cores in order, then the home", IssueTest::asksInOrder);
        Check.test("if it can end, it ends: 1", IssueTest::endsAtOnce);
        Check.test("value is not looked at by a read", IssueTest::readLooksNotAtValue);
        Check.test("a write ends with all T tokens, of 3", () -> writeNeedsAllTokens(2));
        Check.test("a write ends with all T tokens, of 4", () -> writeNeedsAllTokens(3));
        Check.test("a write ends with all T tokens, of 5", () -> writeNeedsAllTokens(4));
        Check.test("a read ends with one token that has data", IssueTest::oneTokenIsEnoughToRead);
        Check.test("a read does not end with a token without data", IssueTest::tokensWithoutDataAreNotEnough);
        Check.test("tokens of the other block do not count", IssueTest::otherBlockDoesNotCount);
        Check.test("values of any size", IssueTest::valuesOfAnySize);
        Check.test("to be repeated PATIENCE units from now", IssueTest::dueFromNow);
        Check.test("repeated 0 times, though the access before was more", IssueTest::repeatedNoTimes);
        Check.test("-1 when there is no core c: too small", () -> dueNoCore(Check.TOO_SMALL));
        Check.test("-1 when there is no core c: too large, the home too", () -> dueNoCore(Check.tooLarge(2)));
        Check.test("-1 when there is no block: too small", () -> dueNoBlock(Check.TOO_SMALL));
        Check.test("-1 when there is no block: too large", () -> dueNoBlock(Check.tooLarge(2)));
        Check.test("the last core and block are there", IssueTest::lastCoreAndBlock);
        Check.test("-2 when c has an access under way", IssueTest::busy);
        Check.test("-2 when c has a persistent access under way", IssueTest::busyPersistent);
        Check.test("-1, not -2, for no block while c has one under way", IssueTest::busyAndNoBlock);
        Check.test("not refused while another core has one under way", IssueTest::anotherIsBusy);
        Check.test("not refused when the access has ended", IssueTest::freeAgain);
        Check.finish();
    }

    private static void asksInOrder() {
        TokenMesh x = new TokenMesh(4, 1, 3);
        Check.due("read by a middle one", x.issue(1, false, 1, 99), 0);
        Check.dueLetters("read by 1", x,
                Check.read(1, 0, 1), Check.read(1, 2, 1), Check.read(1, 3, 1), Check.read(1, 4, 1));
        Check.due("state", x.state(1), 1);

        TokenMesh y = new TokenMesh(4, 1, 3);
        Check.due("write by the last", y.issue(3, true, 0, 99), 0);
        Check.dueLetters("write by 3", y,
                Check.write(3, 0, 0), Check.write(3, 1, 0), Check.write(3, 2, 0), Check.write(3, 4, 0));

        TokenMesh z = new TokenMesh(2, 1, 3);
        Check.due("write by the first", z.issue(0, true, 1, 99), 0);
        Check.dueLetters("write by 0", z, Check.write(0, 1, 1), Check.write(0, 2, 1));
    }

    private static void endsAtOnce() {
        TokenMesh x = new TokenMesh(2, 0, 1);
        Check.writeFromHome(x, 2, 0, 0, 5);
        int waiting = x.letters();
        Check.due("read of own", x.issue(0, false, 0, 0), 1);
        Check.due("its result", x.result(0), 5);
        Check.due("write of own", x.issue(0, true, 0, -8), 1);
        Check.due("result of a write is the data before", x.result(0), 5);
        Check.due("data after it", x.data(0, 0), -8);
        Check.due("memory after it", x.memory(0), -8);
        Check.due("ended", x.ended(0), 3);
        Check.due("state", x.state(0), 0);
        x.tick(50);
        Check.due("no letter was sent", x.letters(), waiting);
    }

    private static void readLooksNotAtValue() {
        TokenMesh x = new TokenMesh(2, 0, 9);
        Check.writeFromHome(x, 2, 0, 0, 5);
        Check.due("read at once", x.issue(0, false, 0, 77), 1);
        Check.due("data", x.data(0, 0), 5);
        Check.due("result", x.result(0), 5);
        Check.due("read by letters", x.issue(1, false, 0, 77), 0);
        Check.bring(x, Check.read(1, 0, 0));
        Check.bring(x, Check.copy(0, 1, 0, 1));
        Check.due("data", x.data(1, 0), 5);
        Check.due("result", x.result(1), 5);
        Check.due("memory", x.memory(0), 5);
    }

    private static void writeNeedsAllTokens(int home) {
        TokenMesh x = new TokenMesh(home, 0, 1);
        Check.writeFromHome(x, home, 0, 1, 5);
        Check.readFrom(x, 0, 1, 1);
        Check.due("core 0 lacks one", x.tokens(0, 1), home + 8 + 16);
        Check.due("write with all but one", x.issue(0, true, 1, 6), 0);
        Check.due("data stays", x.data(0, 1), 5);
        Check.bring(x, Check.write(0, 1, 1));
        Check.bring(x, Check.bare(1, 0, 1, 1));
        Check.due("write with all", x.state(0), 0);
        Check.due("data", x.data(0, 1), 6);
        Check.due("write with all, at once", x.issue(0, true, 1, 7), 1);
        Check.due("data", x.data(0, 1), 7);
    }

    private static void oneTokenIsEnoughToRead() {
        TokenMesh x = new TokenMesh(4, 0, 1);
        Check.readFrom(x, 4, 3, 1);
        Check.due("one token", x.tokens(3, 1), 1 + 16);
        Check.due("read at once", x.issue(3, false, 1, 0), 1);
        Check.due("write, no", x.issue(3, true, 1, 0), 0);
    }

    private static void tokensWithoutDataAreNotEnough() {
        TokenMesh x = new TokenMesh(2, 4, 9);
        Check.writeFromHome(x, 2, 1, 0, 3);
        Check.readFrom(x, 1, 0, 0);
        Check.due("evict", x.evict(1, 0), true);
        Check.bring(x, Check.write(1, 0, 0));
        Check.bring(x, Check.bare(0, 1, 0, 1));
        Check.due("a token, not valid", x.tokens(1, 0), 1);
        Check.due("read with a token without data", x.issue(1, false, 0, 0), 0);
        Check.due("ended", x.ended(1), 1);
    }

    private static void otherBlockDoesNotCount() {
        TokenMesh x = new TokenMesh(2, 4, 9);
        Check.writeFromHome(x, 2, 1, 0, 3);
        Check.due("read", x.issue(1, false, 1, 0), 0);
        Check.due("state", x.state(1), 1);
    }

    private static void valuesOfAnySize() {
        int[] values = {Integer.MAX_VALUE, Integer.MIN_VALUE, -1, 0, 1 << 20};
        TokenMesh x = new TokenMesh(2, 0, 9);
        Check.writeFromHome(x, 2, 0, 0, 1);
        int before = 1;
        for (int value : values) {
            Check.due("write", x.issue(0, true, 0, value), 1);
            Check.due("data", x.data(0, 0), value);
            Check.due("memory", x.memory(0), value);
            Check.due("result", x.result(0), before);
            before = value;
        }
        x.issue(0, true, 0, Integer.MIN_VALUE);
        x.evict(0, 0);
        Check.due("memory in a letter", x.memory(0), Integer.MIN_VALUE);
        Check.bring(x, Check.owner(0, 2, 0, 3));
        Check.due("data of the home", x.data(2, 0), Integer.MIN_VALUE);
    }

    private static void dueFromNow() {
        TokenMesh x = new TokenMesh(2, 1, 4);
        x.tick(3);
        x.issue(0, true, 0, 1);
        Check.due("tick", x.tick(3), 6);
        Check.due("a unit too early", x.state(0), 1);
        Check.due("tick", x.tick(1), 7);
        Check.due("now", x.state(0), 2);
    }

    private static void repeatedNoTimes() {
        TokenMesh x = new TokenMesh(2, 4, 2);
        x.issue(0, true, 0, 1);
        x.tick(9);
        Check.due("repeated four times", x.state(0), 5);
        Check.bring(x, Check.write(0, 2, 0));
        Check.bring(x, Check.owner(2, 0, 0, 3));
        Check.due("next", x.issue(0, true, 1, 1), 0);
        Check.due("repeated no times", x.state(0), 1);
        x.tick(1);
        Check.due("the time of the first is not that of the next", x.state(0), 1);
        x.tick(1);
        Check.due("once", x.state(0), 2);
    }

    private static void dueNoCore(int[] noCores) {
        TokenMesh x = new TokenMesh(2, 0, 2);
        for (int c : noCores) {
            Check.due("write by " + c, x.issue(c, true, 0, 1), -1);
            Check.due("read by " + c, x.issue(c, false, 1, 1), -1);
            Check.due("nor a block, by " + c, x.issue(c, false, c, 1), -1);
        }
        Check.dueLetters("refused", x);
    }

    private static void dueNoBlock(int[] noBlocks) {
        TokenMesh x = new TokenMesh(2, 0, 2);
        for (int b : noBlocks) {
            Check.due("write of " + b, x.issue(0, true, b, 1), -1);
            Check.due("read of " + b, x.issue(1, false, b, 1), -1);
        }
        Check.dueLetters("refused", x);
        Check.due("free still", x.state(0), 0);
        Check.due("free still", x.state(1), 0);
    }

    private static void lastCoreAndBlock() {
        for (int n = 2; n <= 4; n++) {
            TokenMesh x = new TokenMesh(n, 0, 2);
            Check.due("first", x.issue(0, false, 0, 1), 0);
            Check.due("last", x.issue(n - 1, true, 1, 1), 0);
            Check.due("behind the last", x.issue(n, true, 1, 1), -1);
        }
    }

    private static void busy() {
        TokenMesh x = new TokenMesh(2, 0, 2);
        Check.due("issue", x.issue(0, true, 0, 1), 0);
        x.tick(1);
        Check.due("same block", x.issue(0, true, 0, 2), -2);
        Check.due("same block, to read", x.issue(0, false, 0, 2), -2);
        Check.due("other block", x.issue(0, false, 1, 2), -2);
        Check.dueLetters("busy", x, Check.write(0, 1, 0), Check.write(0, 2, 0));
        x.tick(1);
        Check.due("a refused call puts nothing off", x.state(0), 9);
        Check.bring(x, Check.write(0, 2, 0));
        Check.bring(x, Check.owner(2, 0, 0, 3));
        Check.due("value of the first", x.data(0, 0), 1);
    }

    /** Core 0 has a token to read with, and yet the read is refused while its write is under way. */
    private static void busyPersistent() {
        TokenMesh x = new TokenMesh(2, 0, 1);
        Check.readFrom(x, 2, 0, 1);
        x.issue(0, true, 0, 1);
        x.tick(1);
        Check.due("persistent", x.state(0), 9);
        Check.due("issue that could end", x.issue(0, false, 1, 0), -2);
        Check.due("state", x.state(0), 9);
        Check.due("ended", x.ended(0), 1);
    }

    private static void busyAndNoBlock() {
        TokenMesh x = new TokenMesh(2, 0, 2);
        x.issue(0, true, 0, 1);
        Check.due("block 2", x.issue(0, false, 2, 2), -1);
        Check.due("block -1", x.issue(0, true, -1, 2), -1);
        Check.due("block 1", x.issue(0, true, 1, 2), -2);
    }

    private static void anotherIsBusy() {
        TokenMesh x = new TokenMesh(4, 0, 2);
        for (int c = 0; c < 4; c++) {
            Check.due("core " + c, x.issue(c, c % 2 == 0, 0, 2), 0);
        }
        for (int c = 0; c < 4; c++) {
            Check.due("core " + c, x.issue(c, c % 2 == 0, 0, 2), -2);
        }
        Check.due("letters", x.letters(), 16);
    }

    private static void freeAgain() {
        TokenMesh x = new TokenMesh(2, 0, 9);
        Check.readFrom(x, 2, 0, 0);
        Check.due("issue", x.issue(0, true, 0, 4), 0);
        Check.due("busy", x.issue(0, true, 0, 4), -2);
        Check.bring(x, Check.write(0, 2, 0));
        Check.bring(x, Check.owner(2, 0, 0, 2));
        Check.due("free", x.issue(0, true, 0, 5), 1);
        Check.due("free still", x.issue(0, false, 1, 5), 0);
    }
}
