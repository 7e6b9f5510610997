/** Promise 2. */
public final class IssueTest {
    public static void main(String[] args) {
        asksInOrder();
        endsAtOnce();
        writeNeedsAllTokens();
        tokensWithoutDataAreNotEnough();
        dueFromNow();
        refused();
        Check.finish();
    }

    private static void asksInOrder() {
        TokenMesh x = new TokenMesh(4, 1, 3);
        Check.due("read", x.issue(1, false, 1, 99), 0);
        Check.dueLetters("read by 1", x,
                Check.read(1, 0, 1), Check.read(1, 2, 1), Check.read(1, 3, 1), Check.read(1, 4, 1));
        Check.due("state", x.state(1), 1);
        Check.due("write", x.issue(3, true, 0, 99), 0);
        Check.due("letter(4)", x.letter(4), Check.write(3, 0, 0));
        Check.due("letter(5)", x.letter(5), Check.write(3, 1, 0));
        Check.due("letter(6)", x.letter(6), Check.write(3, 2, 0));
        Check.due("letter(7)", x.letter(7), Check.write(3, 4, 0));
        Check.due("letters()", x.letters(), 8);
    }

    private static void endsAtOnce() {
        TokenMesh x = new TokenMesh(2, 0, 1);
        Check.writeFromHome(x, 2, 0, 0, 5);
        int waiting = x.letters();
        Check.due("read of own", x.issue(0, false, 0, 77), 1);
        Check.due("a read looks not at value", x.data(0, 0), 5);
        Check.due("its result", x.result(0), 5);
        Check.due("write of own", x.issue(0, true, 0, -8), 1);
        Check.due("result of a write is the data before", x.result(0), 5);
        Check.due("data after it", x.data(0, 0), -8);
        Check.due("memory after it", x.memory(0), -8);
        Check.due("ended", x.ended(0), 3);
        Check.due("state", x.state(0), 0);
        Check.due("no letter was sent", x.letters(), waiting);
    }

    private static void writeNeedsAllTokens() {
        TokenMesh x = new TokenMesh(2, 0, 1);
        Check.writeFromHome(x, 2, 0, 1, 5);
        Check.readFrom(x, 0, 1, 1);
        Check.due("write with two of three", x.issue(0, true, 1, 6), 0);
        Check.due("data stays", x.data(0, 1), 5);
        Check.bring(x, Check.write(0, 1, 1));
        Check.bring(x, Check.bare(1, 0, 1, 1));
        Check.due("write with three", x.state(0), 0);
        Check.due("data", x.data(0, 1), 6);
        Check.due("read elsewhere", x.issue(1, false, 1, 0), 0);
    }

    private static void tokensWithoutDataAreNotEnough() {
        TokenMesh x = new TokenMesh(2, 4, 9);
        Check.writeFromHome(x, 2, 1, 0, 3);
        Check.readFrom(x, 1, 0, 0);
        Check.due("evict", x.evict(1, 0), true);
        Check.bring(x, Check.write(1, 0, 0));
        Check.bring(x, Check.bare(0, 1, 0, 1));
        Check.due("a token, not valid", x.tokens(1, 0), 1);
        Check.due("read with a token without data", x.issue(1, false, 0, 0), 0);
    }

    private static void dueFromNow() {
        TokenMesh x = new TokenMesh(2, 1, 4);
        x.tick(3);
        x.issue(0, true, 0, 1);
        Check.due("tick", x.tick(3), 6);
        Check.due("not yet", x.state(0), 1);
        Check.due("tick", x.tick(1), 7);
        Check.due("now", x.state(0), 2);
    }

    private static void refused() {
        TokenMesh x = new TokenMesh(2, 0, 2);
        int[] noCores = {Integer.MIN_VALUE, -1, 2, 3, Integer.MAX_VALUE};
        int[] noBlocks = {Integer.MIN_VALUE, -1, 2, Integer.MAX_VALUE};
        for (int c : noCores) {
            Check.due("no core " + c, x.issue(c, true, 0, 1), -1);
        }
        for (int b : noBlocks) {
            Check.due("no block " + b, x.issue(0, false, b, 1), -1);
        }
        Check.dueLetters("refused", x);
        Check.due("free still", x.state(0), 0);
        Check.due("issue", x.issue(0, true, 0, 1), 0);
        x.tick(1);
        Check.due("busy, same block", x.issue(0, true, 0, 2), -2);
        Check.due("busy, other block", x.issue(0, false, 1, 2), -2);
        Check.due("busy, but no block", x.issue(0, false, 2, 2), -1);
        Check.dueLetters("busy", x, Check.write(0, 1, 0), Check.write(0, 2, 0));
        x.tick(1);
        Check.due("a refused call moves nothing on", x.state(0), 9);
        Check.bring(x, Check.write(0, 2, 0));
        Check.bring(x, Check.owner(2, 0, 0, 3));
        Check.due("value of the first", x.data(0, 0), 1);
    }
}
