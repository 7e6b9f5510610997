/** Promises 8, 9, 10, 11 and 15: what is said of nodes and blocks. */
public final class NodesTest {
    private static final int[] NO_NODES = {Integer.MIN_VALUE, -1, 4, 5, Integer.MAX_VALUE};
    private static final int[] NO_BLOCKS = {Integer.MIN_VALUE, -1, 2, Integer.MAX_VALUE};

    public static void main(String[] args) {
        noSuch();
        tokensAndData();
        knowsAndRow();
        memoryFollowsTheOwner();
        Check.finish();
    }

    private static void noSuch() {
        TokenMesh x = new TokenMesh(3, 0, 1);
        Check.writeFromHome(x, 3, 0, 0, 17);
        for (int node : NO_NODES) {
            Check.due("tokens of node " + node, x.tokens(node, 0), -1);
            Check.due("data of node " + node, x.data(node, 0), 0);
            Check.due("knows of node " + node, x.knows(node, 0), -2);
        }
        for (int b : NO_BLOCKS) {
            Check.due("tokens of block " + b, x.tokens(0, b), -1);
            Check.due("data of block " + b, x.data(0, b), 0);
            Check.due("knows of block " + b, x.knows(0, b), -2);
            Check.due("row of block " + b, x.row(b), -1);
            Check.due("memory of block " + b, x.memory(b), 0);
        }
        Check.due("knows of the home", x.knows(3, 0), -1);
    }

    private static void tokensAndData() {
        TokenMesh x = new TokenMesh(3, 0, 9);
        Check.writeFromHome(x, 3, 0, 1, -17);
        Check.readFrom(x, 0, 2, 1);
        Check.due("owner", x.tokens(0, 1), 3 + 8 + 16);
        Check.due("copy", x.tokens(2, 1), 1 + 16);
        Check.due("none", x.tokens(1, 1), 0);
        Check.due("home", x.tokens(3, 1), 0);
        Check.due("other block", x.tokens(3, 0), 4 + 8 + 16);
        Check.due("data of the owner", x.data(0, 1), -17);
        Check.due("data of the copy", x.data(2, 1), -17);
        Check.due("data of the home is not valid any more", x.data(3, 1), 0);
        Check.due("data of the other block", x.data(0, 0), 0);
        x.evict(0, 1);
        Check.due("data of who gave all", x.data(0, 1), 0);
        Check.due("the copy stays", x.data(2, 1), -17);
    }

    private static void knowsAndRow() {
        TokenMesh x = new TokenMesh(3, 0, 1);
        x.issue(2, true, 0, 4);
        x.issue(1, false, 1, 4);
        x.issue(0, false, 0, 4);
        x.tick(1);
        Check.bring(x, Check.please(2, 3, 0));
        Check.bring(x, Check.please(1, 3, 1));
        Check.bring(x, Check.please(0, 3, 0));
        Check.due("home, writing", x.knows(3, 0), 8 + 2);
        Check.due("home, reading", x.knows(3, 1), 1);
        Check.due("a core that was not told", x.knows(0, 0), -1);
        Check.due("row 0", x.row(0), 1);
        Check.due("row 1 has not the active one", x.row(1), 0);
        Check.bring(x, Check.know(3, 0, 0));
        Check.due("a core that was told", x.knows(0, 0), 8 + 2);
        Check.due("not of the other block", x.knows(0, 1), -1);
    }

    private static void memoryFollowsTheOwner() {
        TokenMesh x = new TokenMesh(2, 0, 9);
        x.issue(0, true, 0, 31);
        Check.bring(x, Check.write(0, 2, 0));
        Check.due("in a letter, old", x.memory(0), 0);
        Check.bring(x, Check.owner(2, 0, 0, 3));
        Check.due("at a core", x.memory(0), 31);
        Check.due("other block", x.memory(1), 0);
        Check.writeFromHome(x, 2, 1, 1, 32);
        x.evict(1, 1);
        x.evict(0, 0);
        Check.due("in a letter, block 0", x.memory(0), 31);
        Check.due("in a letter, block 1", x.memory(1), 32);
        Check.bring(x, Check.owner(0, 2, 0, 3));
        Check.due("at home", x.memory(0), 31);
        x.issue(1, false, 0, 0);
        Check.bring(x, Check.read(1, 2, 0));
        Check.due("a letter with a mere copy", x.memory(0), 31);
    }
}
