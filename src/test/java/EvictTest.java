/** Promise 5. */
public final class EvictTest {
    public static void main(String[] args) {
        withOwner();
        withoutOwner();
        refused();
        passedOnByTheHome();
        Check.finish();
    }

    private static void withOwner() {
        TokenMesh x = new TokenMesh(3, 0, 9);
        Check.writeFromHome(x, 3, 0, 1, 12);
        int waiting = x.letters();
        Check.due("evict", x.evict(0, 1), true);
        Check.due("letter", x.letter(waiting), Check.owner(0, 3, 1, 4));
        Check.due("tokens", x.tokens(0, 1), 0);
        Check.due("data", x.data(0, 1), 0);
        Check.due("memory on the way", x.memory(1), 12);
        Check.due("once more", x.evict(0, 1), false);
        Check.bring(x, Check.owner(0, 3, 1, 4));
        Check.due("home", x.tokens(3, 1), 28);
        Check.due("data of the home", x.data(3, 1), 12);
    }

    private static void withoutOwner() {
        TokenMesh x = new TokenMesh(2, 0, 9);
        Check.readFrom(x, 2, 1, 0);
        Check.due("evict", x.evict(1, 0), true);
        Check.bring(x, Check.bare(1, 2, 0, 1));
        Check.due("home", x.tokens(2, 0), 27);
    }

    private static void refused() {
        TokenMesh x = new TokenMesh(2, 0, 9);
        Check.readFrom(x, 2, 1, 0);
        int[] noCores = {Integer.MIN_VALUE, -1, 2, 3, Integer.MAX_VALUE};
        int[] noBlocks = {Integer.MIN_VALUE, -1, 2, Integer.MAX_VALUE};
        for (int c : noCores) {
            Check.due("no core " + c, x.evict(c, 0), false);
        }
        for (int b : noBlocks) {
            Check.due("no block " + b, x.evict(1, b), false);
        }
        Check.due("no token of the block", x.evict(1, 1), false);
        Check.due("no token", x.evict(0, 0), false);
        x.issue(1, true, 0, 5);
        int waiting = x.letters();
        Check.due("access of it under way", x.evict(1, 0), false);
        Check.due("nothing was sent", x.letters(), waiting);
        Check.due("the token stays", x.tokens(1, 0), 17);

        TokenMesh y = new TokenMesh(2, 0, 9);
        Check.readFrom(y, 2, 1, 0);
        y.issue(1, false, 1, 0);
        Check.due("access of the other block under way", y.evict(1, 0), true);
    }

    private static void passedOnByTheHome() {
        TokenMesh x = new TokenMesh(2, 0, 1);
        Check.writeFromHome(x, 2, 0, 0, 6);
        x.issue(1, false, 0, 0);
        x.tick(1);
        Check.bring(x, Check.please(1, 2, 0));
        Check.due("evict", x.evict(0, 0), true);
        Check.bring(x, Check.owner(0, 2, 0, 3));
        Check.due("the home gives the owner on", x.tokens(2, 0), 16 + 2);
        Check.bring(x, Check.owner(2, 1, 0, 1));
        Check.due("result", x.result(1), 6);
        Check.due("tokens", x.tokens(1, 0), 16 + 8 + 1);
    }
}
