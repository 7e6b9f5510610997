/** Promises 8, 9, 10, 11 and 15: what is said of nodes and blocks. */
public final class NodesTest {
    public static void main(String[] args) {
        Check.test("tokens: the sum", NodesTest::tokensOfAll);
        Check.test("tokens: none, one, all", NodesTest::tokensLeastAndMost);
        Check.test("tokens: -1 when there is no such node, too small", () -> dueNoTokens(Check.TOO_SMALL, 0));
        Check.test("tokens: -1 when there is no such node, too large", () -> dueNoTokens(Check.tooLarge(4), 1));
        Check.test("tokens: -1 when there is no such block, too small", () -> dueNoTokensOf(Check.TOO_SMALL));
        Check.test("tokens: -1 when there is no such block, too large", () -> dueNoTokensOf(Check.tooLarge(2)));

        Check.test("data: the valid data", NodesTest::dataOfAll);
        Check.test("data: 0 when it is not valid", NodesTest::dataNotValid);
        Check.test("data: 0 when there is no such node, too small", () -> dueNoData(Check.TOO_SMALL));
        Check.test("data: 0 when there is no such node, too large", () -> dueNoData(Check.tooLarge(4)));
        Check.test("data: 0 when there is no such block, too small", () -> dueNoDataOf(Check.TOO_SMALL));
        Check.test("data: 0 when there is no such block, too large", () -> dueNoDataOf(Check.tooLarge(2)));

        Check.test("knows: the core, and 8 more for writing", NodesTest::knowsOfAll);
        Check.test("knows: least and greatest answer", NodesTest::knowsLeastAndMost);
        Check.test("knows: -1 when of no active request", NodesTest::knowsOfNone);
        Check.test("knows: -2 when there is no such node, too small", () -> dueNoKnows(Check.TOO_SMALL));
        Check.test("knows: -2 when there is no such node, too large", () -> dueNoKnows(Check.tooLarge(4)));
        Check.test("knows: -2 when there is no such block, too small", () -> dueNoKnowsOf(Check.TOO_SMALL));
        Check.test("knows: -2 when there is no such block, too large", () -> dueNoKnowsOf(Check.tooLarge(2)));

        Check.test("row: empty, one, full", NodesTest::rowLeastAndMost);
        Check.test("row: -1 when there is no such block, too small", () -> dueNoRow(Check.TOO_SMALL));
        Check.test("row: -1 when there is no such block, too large", () -> dueNoRow(Check.tooLarge(2)));

        Check.test("memory: wherever the owner is", NodesTest::memoryFollowsTheOwner);
        Check.test("memory: among letters of both blocks", NodesTest::memoryAmongLetters);
        Check.test("memory: 0 when there is no such block, too small", () -> dueNoMemory(Check.TOO_SMALL));
        Check.test("memory: 0 when there is no such block, too large", () -> dueNoMemory(Check.tooLarge(2)));
        Check.finish();
    }

    /** Three cores; 17 is the data of block 0 and 18 that of block 1, and both have active requests. */
    private static TokenMesh lively() {
        TokenMesh x = new TokenMesh(3, 0, 1);
        Check.writeFromHome(x, 3, 0, 0, 17);
        Check.writeFromHome(x, 3, 1, 1, 18);
        for (int c = 0; c < 2; c++) {
            x.evict(c, c);
            Check.bring(x, Check.owner(c, 3, c, 4));
        }
        x.issue(0, false, 0, 0);
        x.issue(1, false, 1, 0);
        x.tick(1);
        for (int c = 0; c < 2; c++) {
            Check.bring(x, Check.please(c, 3, c));
            Check.bring(x, Check.owner(3, c, c, 1));
            Check.bring(x, Check.know(3, 0, c));
        }
        return x;
    }

    private static void tokensOfAll() {
        TokenMesh x = new TokenMesh(3, 0, 9);
        Check.writeFromHome(x, 3, 0, 1, -17);
        Check.readFrom(x, 0, 2, 1);
        Check.due("owner", x.tokens(0, 1), 3 + 8 + 16);
        Check.due("copy", x.tokens(2, 1), 1 + 16);
        Check.due("none", x.tokens(1, 1), 0);
        Check.due("home", x.tokens(3, 1), 0);
        Check.due("other block", x.tokens(3, 0), 4 + 8 + 16);
        x.evict(2, 1);
        Check.bring(x, Check.bare(2, 3, 1, 1));
        Check.due("not valid", x.tokens(3, 1), 1);
    }

    private static void tokensLeastAndMost() {
        for (int n = 2; n <= 4; n++) {
            TokenMesh x = new TokenMesh(n, 0, 9);
            Check.due("all at the home", x.tokens(n, 0), n + 1 + 8 + 16);
            Check.due("none at the last core", x.tokens(n - 1, 0), 0);
            Check.writeFromHome(x, n, n - 1, 0, 5);
            Check.due("all at the last core", x.tokens(n - 1, 0), n + 1 + 8 + 16);
            Check.due("none at the home", x.tokens(n, 0), 0);
            Check.readFrom(x, n - 1, 0, 0);
            Check.due("one", x.tokens(0, 0), 1 + 16);
        }
    }

    private static void dueNoTokens(int[] nodes, int block) {
        TokenMesh x = lively();
        for (int node : nodes) {
            Check.due("node " + node, x.tokens(node, block), -1);
            Check.due("node and block " + node, x.tokens(node, node), -1);
        }
        Check.due("the home is a node", x.tokens(3, block), 3 + 16);
    }

    private static void dueNoTokensOf(int[] blocks) {
        TokenMesh x = lively();
        for (int b : blocks) {
            Check.due("block " + b, x.tokens(0, b), -1);
            Check.due("block " + b + " at the home", x.tokens(3, b), -1);
        }
    }

    private static void dataOfAll() {
        TokenMesh x = new TokenMesh(3, 0, 9);
        Check.writeFromHome(x, 3, 0, 1, -17);
        Check.readFrom(x, 0, 2, 1);
        Check.due("owner", x.data(0, 1), -17);
        Check.due("copy", x.data(2, 1), -17);
        Check.due("other block", x.data(0, 0), 0);
        x.evict(0, 1);
        Check.due("the copy stays", x.data(2, 1), -17);
    }

    private static void dataNotValid() {
        TokenMesh x = new TokenMesh(3, 0, 9);
        Check.writeFromHome(x, 3, 0, 1, -17);
        x.evict(0, 1);
        Check.due("of who gave all", x.data(0, 1), 0);
        Check.bring(x, Check.owner(0, 3, 1, 4));
        Check.due("of the home", x.data(3, 1), -17);
        Check.writeFromHome(x, 3, 1, 1, 6);
        Check.due("of the home that gave all", x.data(3, 1), 0);
        Check.readFrom(x, 1, 2, 1);
        x.evict(2, 1);
        Check.bring(x, Check.bare(2, 3, 1, 1));
        Check.due("of who has a token without data, and had data once", x.data(3, 1), 0);
        Check.due("of who never had any", x.data(0, 0), 0);
    }

    private static void dueNoData(int[] nodes) {
        TokenMesh x = lively();
        for (int node : nodes) {
            Check.due("node " + node, x.data(node, 0), 0);
            Check.due("node " + node, x.data(node, 1), 0);
        }
        Check.due("the home is a node", x.data(3, 1), 18);
    }

    private static void dueNoDataOf(int[] blocks) {
        TokenMesh x = lively();
        for (int b : blocks) {
            for (int node = 0; node <= 3; node++) {
                Check.due("block " + b, x.data(node, b), 0);
            }
        }
        Check.due("the last block is one", x.data(1, 1), 18);
    }

    private static void knowsOfAll() {
        TokenMesh x = new TokenMesh(3, 0, 1);
        x.issue(2, true, 0, 4);
        x.issue(1, false, 1, 4);
        x.tick(1);
        Check.bring(x, Check.please(2, 3, 0));
        Check.bring(x, Check.please(1, 3, 1));
        Check.due("home, writing", x.knows(3, 0), 8 + 2);
        Check.due("home, reading", x.knows(3, 1), 1);
        Check.due("a core that was not told", x.knows(0, 0), -1);
        Check.bring(x, Check.know(3, 0, 0));
        Check.due("a core that was told", x.knows(0, 0), 8 + 2);
        Check.due("not of the other block", x.knows(0, 1), -1);
    }

    private static void knowsLeastAndMost() {
        TokenMesh x = new TokenMesh(4, 0, 1);
        x.issue(0, false, 0, 4);
        x.issue(3, true, 1, 4);
        x.tick(1);
        Check.bring(x, Check.please(0, 4, 0));
        Check.bring(x, Check.please(3, 4, 1));
        Check.due("core 0, reading", x.knows(4, 0), 0);
        Check.due("core 3, writing", x.knows(4, 1), 11);
        Check.bring(x, Check.know(4, 3, 0));
        Check.bring(x, Check.know(4, 0, 1));
        Check.due("at another core", x.knows(3, 0), 0);
        Check.due("at another core", x.knows(0, 1), 11);
    }

    private static void knowsOfNone() {
        TokenMesh x = lively();
        Check.due("a core that was never told", x.knows(2, 0), -1);
        Check.due("the home knows", x.knows(3, 1), 1);
        Check.due("core 0 knows", x.knows(0, 1), 1);
        Check.bring(x, Check.over(1, 3));
        Check.due("the home knows of none any more", x.knows(3, 1), -1);
        Check.bring(x, Check.know(3, 0, 1));
        Check.due("core 0 knows of none any more", x.knows(0, 1), -1);
    }

    private static void dueNoKnows(int[] nodes) {
        TokenMesh x = lively();
        for (int node : nodes) {
            Check.due("node " + node, x.knows(node, 0), -2);
            Check.due("node " + node, x.knows(node, 1), -2);
        }
        Check.due("the home is a node", x.knows(3, 0), 0);
    }

    private static void dueNoKnowsOf(int[] blocks) {
        TokenMesh x = lively();
        for (int b : blocks) {
            Check.due("block " + b, x.knows(0, b), -2);
            Check.due("block " + b + " at the home", x.knows(3, b), -2);
        }
    }

    private static void rowLeastAndMost() {
        TokenMesh x = new TokenMesh(4, 0, 1);
        for (int c = 0; c < 4; c++) {
            x.issue(c, true, 1, 4);
        }
        x.tick(1);
        Check.due("empty", x.row(1), 0);
        for (int c = 0; c < 4; c++) {
            Check.bring(x, Check.please(c, 4, 1));
            Check.due("the active one is none of them", x.row(1), c);
            Check.due("the other block", x.row(0), 0);
        }
        for (int c = 0; c < 4; c++) {
            Check.due("active", x.knows(4, 1), 8 + c);
            Check.due("row", x.row(1), 3 - c);
            if (c > 0) {
                Check.bring(x, Check.know(4, c - 1, 1));
            }
            Check.bring(x, Check.owner(c == 0 ? 4 : c - 1, c, 1, 5));
            Check.bring(x, Check.over(c, 4));
        }
        Check.due("empty again", x.row(1), 0);
        Check.due("none is active", x.knows(4, 1), -1);
    }

    private static void dueNoRow(int[] blocks) {
        TokenMesh x = lively();
        for (int b : blocks) {
            Check.due("block " + b, x.row(b), -1);
        }
        Check.due("block 0", x.row(0), 0);
        Check.due("block 1", x.row(1), 0);
    }

    private static void memoryFollowsTheOwner() {
        TokenMesh x = new TokenMesh(2, 0, 9);
        Check.due("at home at first", x.memory(0), 0);
        x.issue(0, true, 0, 31);
        Check.bring(x, Check.write(0, 2, 0));
        Check.due("in a letter, old", x.memory(0), 0);
        Check.bring(x, Check.owner(2, 0, 0, 3));
        Check.due("at a core", x.memory(0), 31);
        Check.due("other block", x.memory(1), 0);
        x.evict(0, 0);
        Check.bring(x, Check.owner(0, 2, 0, 3));
        Check.due("at home", x.memory(0), 31);
        x.issue(1, false, 0, 0);
        Check.bring(x, Check.read(1, 2, 0));
        Check.due("a letter with a mere copy", x.memory(0), 31);
    }

    private static void memoryAmongLetters() {
        TokenMesh x = new TokenMesh(2, 0, 9);
        Check.writeFromHome(x, 2, 0, 0, 31);
        Check.writeFromHome(x, 2, 1, 1, 32);
        x.evict(1, 1);
        x.evict(0, 0);
        Check.due("block 0, behind block 1", x.memory(0), 31);
        Check.due("block 1", x.memory(1), 32);
        // A copy of block 0 is sent before the owner is; both wait.
        TokenMesh y = new TokenMesh(3, 0, 9);
        Check.writeFromHome(y, 3, 0, 0, 41);
        y.issue(1, false, 0, 0);
        Check.bring(y, Check.read(1, 0, 0));
        y.evict(0, 0);
        Check.due("with a copy before it", y.memory(0), 41);
    }

    private static void dueNoMemory(int[] blocks) {
        TokenMesh x = lively();
        for (int b : blocks) {
            Check.due("block " + b, x.memory(b), 0);
        }
        Check.due("block 0", x.memory(0), 17);
        Check.due("block 1", x.memory(1), 18);
    }
}
