/** Promise 5. */
public final class EvictTest {
    public static void main(String[] args) {
        Check.test("all tokens go to the home, with the owner and data", EvictTest::withOwner);
        Check.test("all tokens go to the home, without the owner and data", EvictTest::withoutOwner);
        Check.test("a single token that is the owner", EvictTest::ownerAlone);
        Check.test("tokens without data", EvictTest::notValid);
        Check.test("the home gives on what it gets", EvictTest::passedOnByTheHome);
        Check.test("false when there is no core c: too small", () -> dueNoCore(Check.TOO_SMALL));
        Check.test("false when there is no core c: too large, the home too", () -> dueNoCore(Check.tooLarge(2)));
        Check.test("false when there is no block: too small", () -> dueNoBlock(Check.TOO_SMALL));
        Check.test("false when there is no block: too large", () -> dueNoBlock(Check.tooLarge(2)));
        Check.test("the last core and block are there", EvictTest::lastCoreAndBlock);
        Check.test("false when it has no token of it", EvictTest::noToken);
        Check.test("false when it has no token of it any more", EvictTest::noTokenAnyMore);
        Check.test("false when it has an access of it under way", EvictTest::accessUnderWay);
        Check.test("false when that access is persistent", EvictTest::persistentAccessUnderWay);
        Check.test("true when the access is of the other block", EvictTest::accessOfTheOtherBlock);
        Check.test("true when the access is another core's", EvictTest::accessOfAnotherCore);
        Check.test("true when the access has ended", EvictTest::accessEnded);
        Check.finish();
    }

    private static void withOwner() {
        TokenMesh x = new TokenMesh(3, 0, 9);
        Check.writeFromHome(x, 3, 0, 1, 12);
        int waiting = x.letters();
        Check.due("evict", x.evict(0, 1), true);
        Check.due("letter", x.letter(waiting), Check.owner(0, 3, 1, 4));
        Check.due("tokens", x.tokens(0, 1), 0);
        Check.due("data", x.data(0, 1), 0);
        Check.due("memory on the way", x.memory(1), 12);
        Check.bring(x, Check.owner(0, 3, 1, 4));
        Check.due("home", x.tokens(3, 1), 28);
        Check.due("data of the home", x.data(3, 1), 12);
    }

    private static void withoutOwner() {
        TokenMesh x = new TokenMesh(2, 0, 9);
        Check.readFrom(x, 2, 1, 0);
        Check.due("evict", x.evict(1, 0), true);
        Check.due("data", x.data(1, 0), 0);
        Check.bring(x, Check.bare(1, 2, 0, 1));
        Check.due("home", x.tokens(2, 0), 27);
    }

    private static void ownerAlone() {
        TokenMesh x = new TokenMesh(2, 0, 1);
        x.issue(1, false, 0, 0);
        x.tick(1);
        Check.bring(x, Check.please(1, 2, 0));
        Check.bring(x, Check.owner(2, 1, 0, 1));
        Check.due("the owner", x.tokens(1, 0), 1 + 8 + 16);
        Check.due("evict", x.evict(1, 0), true);
        Check.due("letter", x.letter(x.letters() - 1), Check.owner(1, 2, 0, 1));
        Check.due("tokens", x.tokens(1, 0), 0);
    }

    private static void notValid() {
        TokenMesh x = new TokenMesh(2, 4, 9);
        Check.writeFromHome(x, 2, 1, 0, 3);
        Check.readFrom(x, 1, 0, 0);
        x.evict(1, 0);
        Check.bring(x, Check.write(1, 0, 0));
        Check.bring(x, Check.bare(0, 1, 0, 1));
        Check.due("a token without data", x.tokens(1, 0), 1);
        Check.due("evict", x.evict(1, 0), true);
        Check.due("letter", x.letter(x.letters() - 1), Check.bare(1, 2, 0, 1));
    }

    private static void passedOnByTheHome() {
        TokenMesh x = new TokenMesh(2, 0, 1);
        Check.writeFromHome(x, 2, 0, 0, 6);
        x.issue(1, false, 0, 0);
        x.tick(1);
        Check.bring(x, Check.please(1, 2, 0));
        Check.due("evict", x.evict(0, 0), true);
        Check.bring(x, Check.owner(0, 2, 0, 3));
        Check.due("the home gives the owner on", x.tokens(2, 0), 16 + 2);
        Check.bring(x, Check.owner(2, 1, 0, 1));
        Check.due("result", x.result(1), 6);
        Check.due("tokens", x.tokens(1, 0), 16 + 8 + 1);
    }

    /** Core 0 and core 1 have all tokens of a block each, so that no call fails for want of tokens. */
    private static TokenMesh rich() {
        TokenMesh x = new TokenMesh(2, 0, 9);
        Check.writeFromHome(x, 2, 0, 0, 5);
        Check.writeFromHome(x, 2, 1, 1, 6);
        return x;
    }

    private static void dueRich(TokenMesh x, int waiting) {
        Check.due("letters", x.letters(), waiting);
        Check.due("tokens of core 0", x.tokens(0, 0), 27);
        Check.due("tokens of core 1", x.tokens(1, 1), 27);
    }

    private static void dueNoCore(int[] noCores) {
        TokenMesh x = rich();
        int waiting = x.letters();
        for (int c : noCores) {
            Check.due("core " + c + ", block 0", x.evict(c, 0), false);
            Check.due("core " + c + ", block 1", x.evict(c, 1), false);
        }
        dueRich(x, waiting);
        Check.due("the home of a new one", new TokenMesh(2, 0, 9).evict(2, 0), false);
    }

    private static void dueNoBlock(int[] noBlocks) {
        TokenMesh x = rich();
        int waiting = x.letters();
        for (int b : noBlocks) {
            Check.due("core 0, block " + b, x.evict(0, b), false);
            Check.due("core 1, block " + b, x.evict(1, b), false);
        }
        dueRich(x, waiting);
    }

    private static void lastCoreAndBlock() {
        for (int n = 2; n <= 4; n++) {
            TokenMesh x = new TokenMesh(n, 0, 9);
            Check.writeFromHome(x, n, n - 1, 1, 5);
            Check.due("evict", x.evict(n - 1, 1), true);
            Check.due("letter", x.letter(x.letters() - 1), Check.owner(n - 1, n, 1, n + 1));
        }
    }

    private static void noToken() {
        TokenMesh x = rich();
        int waiting = x.letters();
        Check.due("all of it are at core 1", x.evict(0, 1), false);
        Check.due("all of it are at core 0", x.evict(1, 0), false);
        dueRich(x, waiting);
    }

    private static void noTokenAnyMore() {
        TokenMesh x = rich();
        Check.due("evict", x.evict(0, 0), true);
        int waiting = x.letters();
        Check.due("once more", x.evict(0, 0), false);
        Check.due("letters", x.letters(), waiting);
    }

    private static void accessUnderWay() {
        TokenMesh x = new TokenMesh(2, 0, 9);
        Check.readFrom(x, 2, 1, 0);
        x.issue(1, true, 0, 5);
        int waiting = x.letters();
        Check.due("evict", x.evict(1, 0), false);
        Check.due("nothing was sent", x.letters(), waiting);
        Check.due("the token stays", x.tokens(1, 0), 17);
        Check.due("under way still", x.state(1), 1);
    }

    private static void persistentAccessUnderWay() {
        TokenMesh x = new TokenMesh(2, 0, 1);
        Check.readFrom(x, 2, 1, 0);
        x.issue(1, true, 0, 5);
        x.tick(1);
        int waiting = x.letters();
        Check.due("evict", x.evict(1, 0), false);
        Check.due("nothing was sent", x.letters(), waiting);
        Check.due("the token stays", x.tokens(1, 0), 17);
    }

    private static void accessOfTheOtherBlock() {
        TokenMesh x = new TokenMesh(2, 0, 9);
        Check.readFrom(x, 2, 1, 0);
        x.issue(1, false, 1, 0);
        Check.due("evict", x.evict(1, 0), true);
        Check.due("under way still", x.state(1), 1);
    }

    private static void accessOfAnotherCore() {
        TokenMesh x = new TokenMesh(2, 0, 9);
        Check.readFrom(x, 2, 1, 0);
        x.issue(0, false, 0, 0);
        Check.due("evict", x.evict(1, 0), true);
    }

    private static void accessEnded() {
        TokenMesh x = new TokenMesh(2, 0, 9);
        Check.readFrom(x, 2, 1, 0);
        x.issue(1, true, 0, 5);
        Check.due("under way", x.evict(1, 0), false);
        Check.bring(x, Check.write(1, 2, 0));
        Check.bring(x, Check.owner(2, 1, 0, 2));
        Check.due("ended", x.evict(1, 0), true);
        Check.due("letter", x.letter(x.letters() - 1), Check.owner(1, 2, 0, 3));
        Check.due("memory", x.memory(0), 5);
    }
}
