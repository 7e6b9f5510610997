/** Promises 6 and 7, and the rule by which a letter takes another one's place. */
public final class LettersTest {
    public static void main(String[] args) {
        Check.test("how many letters wait: none, one, some", LettersTest::howMany);
        Check.test("very many letters wait", LettersTest::veryMany);
        Check.test("-1 when there is none: no letter waits", LettersTest::noLetterWaits);
        Check.test("-1 when there is none: i is too small", () -> dueNone(Check.TOO_SMALL));
        Check.test("-1 when there is none: i is too large", () -> dueNone(Check.tooLarge(2)));
        Check.test("the letter at place i, first and last", LettersTest::firstAndLast);
        Check.test("the sum of each kind", LettersTest::sums);
        Check.test("the sum of the block: 0 for an OVER", LettersTest::overBearsNoBlock);
        Check.test("the sum of TOKENS: least and greatest", LettersTest::sumsOfTokens);
        Check.test("a letter takes the place of one of its kind", LettersTest::sameKindTakesThePlace);
        Check.test("of the other block too: READ and PLEASE", LettersTest::otherBlockTakesThePlaceToo);
        Check.test("of the other block too: WRITE", LettersTest::writeOfTheOtherBlock);
        Check.test("not of one from or to another node", LettersTest::otherNodesStay);
        Check.test("a KNOW only of the same block", LettersTest::knowsOfOtherBlocksStay);
        Check.test("a letter other than TOKENS", LettersTest::tokensNeverTakeAPlace);
        Check.test("an OVER takes the place of an OVER", LettersTest::oversTakeThePlace);
        Check.test("a PLEASE takes the place of a PLEASE", LettersTest::pleasTakeThePlace);
        Check.finish();
    }

    private static void howMany() {
        TokenMesh x = new TokenMesh(2, 0, 5);
        Check.due("new", x.letters(), 0);
        x.issue(0, false, 0, 0);
        Check.due("asked", x.letters(), 2);
        x.deliver(0);
        Check.due("one delivered", x.letters(), 1);
        x.deliver(0);
        Check.due("TOKENS for the READ", x.letters(), 1);
        x.deliver(0);
        Check.due("all delivered", x.letters(), 0);
    }

    /** Each core has a READ and a WRITE to every other node, and what else can wait with them. */
    private static void veryMany() {
        TokenMesh x = new TokenMesh(4, 4, 1);
        for (int c = 0; c < 4; c++) {
            x.issue(c, false, 0, 0);
        }
        for (int c = 0; c < 4; c++) {
            Check.bring(x, Check.read(c, 4, 0));
        }
        x.tick(1);
        for (int c = 0; c < 4; c++) {
            Check.bring(x, Check.copy(4, c, 0, 1));
            x.issue(c, true, 1, c);
        }
        Check.due("READs and WRITEs", x.letters(), 32);
        x.tick(5);
        Check.due("and a PLEASE of each", x.letters(), 36);
        for (int c = 0; c < 4; c++) {
            Check.due("evict", x.evict(c, 0), true);
        }
        Check.due("and TOKENS of each", x.letters(), 40);
        Check.bring(x, Check.please(3, 4, 1));
        Check.due("and KNOWs, and TOKENS of the home", x.letters(), 44);
        Check.due("the first", x.letter(0), Check.read(0, 1, 0));
        Check.due("the last", x.letter(43), Check.owner(4, 3, 1, 5));
        Check.due("behind the last", x.letter(44), -1);
        Check.due("deliver behind the last", x.deliver(44), -1);
        Check.due("deliver the last", x.deliver(43), 3);
        Check.due("an OVER for it", x.letter(43), Check.over(3, 4));
        for (int left = 43; left >= 8; left--) {
            Check.due("deliver(0)", x.deliver(0) > 0, true);
        }
        Check.due("ended", x.ended(3), 2);
    }

    private static void noLetterWaits() {
        TokenMesh x = new TokenMesh(2, 0, 5);
        Check.due("letter(0)", x.letter(0), -1);
        Check.due("letter(-1)", x.letter(-1), -1);
        Check.due("letter(1)", x.letter(1), -1);
        x.issue(0, false, 0, 0);
        x.deliver(0);
        x.deliver(0);
        x.deliver(0);
        Check.due("letter(0) when all have been delivered", x.letter(0), -1);
    }

    private static void dueNone(int[] places) {
        TokenMesh x = new TokenMesh(2, 0, 5);
        x.issue(0, false, 0, 0);
        for (int i : places) {
            Check.due("letter(" + i + ")", x.letter(i), -1);
        }
        Check.dueLetters("all wait", x, Check.read(0, 1, 0), Check.read(0, 2, 0));
    }

    private static void firstAndLast() {
        TokenMesh x = new TokenMesh(4, 0, 5);
        x.issue(3, true, 1, 0);
        Check.due("first", x.letter(0), Check.write(3, 0, 1));
        Check.due("last", x.letter(3), Check.write(3, 4, 1));
        x.deliver(0);
        Check.due("first now", x.letter(0), Check.write(3, 1, 1));
        Check.due("last now", x.letter(2), Check.write(3, 4, 1));
        Check.due("behind it", x.letter(3), -1);
    }

    private static void sums() {
        TokenMesh x = new TokenMesh(4, 0, 1);
        x.issue(3, true, 1, 6);
        Check.due("WRITE", x.letter(3), 2 + 8 * 4 + 64 * 3 + 512);
        x.tick(1);
        Check.due("PLEASE", x.letter(4), 4 + 8 * 4 + 64 * 3 + 512);
        x.deliver(4);
        Check.due("KNOW", x.letter(6), 5 + 8 * 2 + 64 * 4 + 512);
        Check.due("TOKENS", x.letter(8), 3 + 8 * 3 + 64 * 4 + 512 + 1024 * 5 + 8192 + 16384);
        x.deliver(8);
        Check.due("OVER", x.letter(8), 6 + 8 * 4 + 64 * 3);
        x.issue(2, false, 1, 0);
        Check.due("READ", x.letter(10), 1 + 8 * 1 + 64 * 2 + 512);
    }

    private static void overBearsNoBlock() {
        for (int b = 0; b < 2; b++) {
            TokenMesh x = new TokenMesh(2, 0, 1);
            x.issue(1, true, b, 6);
            x.tick(1);
            Check.bring(x, Check.write(1, 2, b));
            Check.bring(x, Check.owner(2, 1, b, 3));
            Check.due("OVER", x.letter(x.letters() - 1), 6 + 8 * 2 + 64);
        }
    }

    private static void sumsOfTokens() {
        TokenMesh x = new TokenMesh(4, 0, 9);
        x.issue(0, true, 0, 6);
        x.deliver(3);
        Check.due("all five, the owner, data", x.letter(3), 3 + 64 * 4 + 1024 * 5 + 8192 + 16384);
        x.deliver(3);
        x.issue(1, false, 0, 0);
        Check.bring(x, Check.read(1, 0, 0));
        Check.due("one with data", x.letter(x.letters() - 1), 3 + 8 + 1024 + 16384);
        Check.bring(x, Check.copy(0, 1, 0, 1));
        x.evict(1, 0);
        Check.due("one without data", x.letter(x.letters() - 1), 3 + 8 * 4 + 64 + 1024);
        x.evict(0, 0);
        Check.due("four, the owner, data", x.letter(x.letters() - 1), 3 + 8 * 4 + 1024 * 4 + 8192 + 16384);
    }

    private static void sameKindTakesThePlace() {
        TokenMesh x = new TokenMesh(2, 2, 1);
        x.issue(0, false, 0, 0);
        x.issue(1, false, 0, 0);
        Check.dueLetters("first", x, Check.read(0, 1, 0), Check.read(0, 2, 0), Check.read(1, 0, 0), Check.read(1, 2, 0));
        x.deliver(2);
        x.tick(1);
        Check.dueLetters("again", x, Check.read(0, 1, 0), Check.read(0, 2, 0), Check.read(1, 0, 0), Check.read(1, 2, 0));

        TokenMesh y = new TokenMesh(2, 2, 2);
        y.issue(0, true, 0, 0);
        y.tick(1);
        y.issue(1, true, 0, 0);
        y.tick(1);
        Check.dueLetters("the new ones are the last", y,
                Check.write(1, 0, 0), Check.write(1, 2, 0), Check.write(0, 1, 0), Check.write(0, 2, 0));
    }

    private static void otherBlockTakesThePlaceToo() {
        TokenMesh x = new TokenMesh(2, 0, 1);
        x.issue(0, false, 0, 0);
        x.tick(1);
        Check.bring(x, Check.read(0, 2, 0));
        Check.bring(x, Check.copy(2, 0, 0, 1));
        Check.dueLetters("left", x, Check.read(0, 1, 0), Check.please(0, 2, 0), Check.over(0, 2));
        x.issue(0, false, 1, 0);
        Check.dueLetters("READ of block 1", x, Check.please(0, 2, 0), Check.over(0, 2),
                Check.read(0, 1, 1), Check.read(0, 2, 1));
        x.tick(1);
        Check.dueLetters("PLEASE of block 1", x, Check.over(0, 2),
                Check.read(0, 1, 1), Check.read(0, 2, 1), Check.please(0, 2, 1));
        Check.bring(x, Check.read(0, 2, 1));
        Check.bring(x, Check.copy(2, 0, 1, 1));
        x.issue(0, true, 0, 0);
        Check.dueLetters("a WRITE leaves READs", x, Check.read(0, 1, 1), Check.please(0, 2, 1), Check.over(0, 2),
                Check.write(0, 1, 0), Check.write(0, 2, 0));
    }

    private static void writeOfTheOtherBlock() {
        TokenMesh x = new TokenMesh(2, 0, 9);
        Check.writeFromHome(x, 2, 0, 0, 5);
        Check.dueLetters("left", x, Check.write(0, 1, 0));
        x.issue(0, true, 1, 5);
        Check.dueLetters("WRITE of block 1", x, Check.write(0, 1, 1), Check.write(0, 2, 1));
    }

    private static void otherNodesStay() {
        TokenMesh x = new TokenMesh(3, 0, 5);
        x.issue(0, true, 0, 0);
        x.issue(1, true, 0, 0);
        x.issue(2, true, 0, 0);
        Check.dueLetters("of each to each", x,
                Check.write(0, 1, 0), Check.write(0, 2, 0), Check.write(0, 3, 0),
                Check.write(1, 0, 0), Check.write(1, 2, 0), Check.write(1, 3, 0),
                Check.write(2, 0, 0), Check.write(2, 1, 0), Check.write(2, 3, 0));
    }

    private static void knowsOfOtherBlocksStay() {
        TokenMesh x = new TokenMesh(2, 0, 1);
        x.issue(0, true, 0, 0);
        x.issue(1, true, 1, 0);
        x.tick(1);
        for (int i = 0; i < 4; i++) {
            x.deliver(0);
        }
        Check.due("both homes' tokens are on the way", x.tokens(2, 0) + x.tokens(2, 1), 0);
        Check.bring(x, Check.please(0, 2, 0));
        Check.bring(x, Check.please(1, 2, 1));
        int n = x.letters();
        Check.due("KNOW", x.letter(n - 4), Check.know(2, 0, 0));
        Check.due("KNOW", x.letter(n - 3), Check.know(2, 1, 0));
        Check.due("KNOW", x.letter(n - 2), Check.know(2, 0, 1));
        Check.due("KNOW", x.letter(n - 1), Check.know(2, 1, 1));
        Check.bring(x, Check.owner(2, 0, 0, 3));
        Check.bring(x, Check.over(0, 2));
        n = x.letters();
        Check.due("KNOW of none is last", x.letter(n - 1), Check.know(2, 1, 0));
        Check.due("KNOW of none is last", x.letter(n - 2), Check.know(2, 0, 0));
        Check.due("others stay", x.letter(n - 3), Check.know(2, 1, 1));
        Check.due("others stay", x.letter(n - 4), Check.know(2, 0, 1));
        Check.due("no more of them", x.letters(), 5);
    }

    private static void tokensNeverTakeAPlace() {
        TokenMesh x = new TokenMesh(2, 4, 1);
        x.issue(0, false, 0, 0);
        Check.bring(x, Check.read(0, 2, 0));
        x.tick(1);
        Check.bring(x, Check.read(0, 2, 0));
        x.tick(1);
        Check.bring(x, Check.read(0, 2, 0));
        Check.dueLetters("three of them", x, Check.copy(2, 0, 0, 1), Check.copy(2, 0, 0, 1),
                Check.read(0, 1, 0), Check.owner(2, 0, 0, 1));
        x.deliver(0);
        x.deliver(0);
        x.deliver(1);
        Check.due("all have come", x.tokens(0, 0), 8 + 16 + 3);
    }

    /** Two accesses of core 0 have ended as persistent ones before the first OVER is delivered. */
    private static void oversTakeThePlace() {
        TokenMesh x = new TokenMesh(2, 0, 1);
        for (int b = 0; b < 2; b++) {
            x.issue(0, true, b, 5);
            x.tick(1);
            Check.bring(x, Check.please(0, 2, b));
            Check.bring(x, Check.owner(2, 0, b, 3));
        }
        int overs = 0;
        for (int i = 0; i < x.letters(); i++) {
            if (x.letter(i) == Check.over(0, 2)) {
                overs++;
            }
        }
        Check.due("OVERs that wait", overs, 1);
        Check.due("the second PLEASE ended the first request", x.knows(2, 0), -1);
        Check.due("active", x.knows(2, 1), 8);
        Check.bring(x, Check.over(0, 2));
        Check.due("the OVER was the later one", x.knows(2, 1), -1);
    }

    /** The PLEASE of core 0's second access, of the other block, is the only one that is left. */
    private static void pleasTakeThePlace() {
        TokenMesh x = new TokenMesh(2, 0, 1);
        x.issue(0, false, 0, 5);
        x.tick(1);
        Check.bring(x, Check.read(0, 2, 0));
        Check.bring(x, Check.copy(2, 0, 0, 1));
        x.issue(1, true, 1, 5);
        x.issue(0, true, 1, 5);
        x.tick(1);
        int n = x.letters();
        Check.due("core 0's is new", x.letter(n - 2), Check.please(0, 2, 1));
        Check.due("core 1's too", x.letter(n - 1), Check.please(1, 2, 1));
        for (int i = 0; i < n - 2; i++) {
            Check.due("no other PLEASE waits", x.letter(i) % 8 == 4, false);
        }
        Check.bring(x, Check.please(0, 2, 1));
        Check.due("it is for writing", x.knows(2, 1), 8);
        Check.due("block 0 has no request", x.knows(2, 0), -1);
    }
}
