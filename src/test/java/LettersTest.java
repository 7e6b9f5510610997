/** Promises 6 and 7, and the rule by which a letter takes another one's place. */
public final class LettersTest {
    public static void main(String[] args) {
        places();
        sums();
        sameKindTakesThePlace();
        otherBlockTakesThePlaceToo();
        knowsOfOtherBlocksStay();
        tokensNeverTakeAPlace();
        oversTakeThePlace();
        Check.finish();
    }

    private static void places() {
        TokenMesh x = new TokenMesh(2, 0, 5);
        Check.due("letter of none", x.letter(0), -1);
        x.issue(0, false, 0, 0);
        int[] bad = {Integer.MIN_VALUE, -1, 2, 3, Integer.MAX_VALUE};
        for (int i : bad) {
            Check.due("letter(" + i + ")", x.letter(i), -1);
        }
        Check.due("letters", x.letters(), 2);
        x.deliver(0);
        Check.due("letters", x.letters(), 1);
        Check.due("letter(1)", x.letter(1), -1);
    }

    private static void sums() {
        TokenMesh x = new TokenMesh(4, 0, 1);
        x.issue(3, true, 1, 6);
        Check.due("WRITE", x.letter(3), 2 + 8 * 4 + 64 * 3 + 512);
        x.tick(1);
        Check.due("PLEASE", x.letter(4), 4 + 8 * 4 + 64 * 3 + 512);
        x.deliver(4);
        Check.due("KNOW", x.letter(6), 5 + 8 * 2 + 64 * 4 + 512);
        Check.due("TOKENS", x.letter(8), 3 + 8 * 3 + 64 * 4 + 512 + 1024 * 5 + 8192 + 16384);
        x.deliver(8);
        Check.due("OVER bears no block", x.letter(8), 6 + 8 * 4 + 64 * 3);
        x.issue(2, false, 1, 0);
        Check.due("READ", x.letter(10), 1 + 8 * 1 + 64 * 2 + 512);
    }

    private static void sameKindTakesThePlace() {
        TokenMesh x = new TokenMesh(2, 2, 1);
        x.issue(0, false, 0, 0);
        x.issue(1, false, 0, 0);
        Check.dueLetters("first", x, Check.read(0, 1, 0), Check.read(0, 2, 0), Check.read(1, 0, 0), Check.read(1, 2, 0));
        x.deliver(2);
        x.tick(1);
        Check.dueLetters("again", x, Check.read(0, 1, 0), Check.read(0, 2, 0), Check.read(1, 0, 0), Check.read(1, 2, 0));

        TokenMesh y = new TokenMesh(2, 2, 2);
        y.issue(0, true, 0, 0);
        y.tick(1);
        y.issue(1, true, 0, 0);
        y.tick(1);
        Check.dueLetters("the new ones are the last", y,
                Check.write(1, 0, 0), Check.write(1, 2, 0), Check.write(0, 1, 0), Check.write(0, 2, 0));
    }

    private static void otherBlockTakesThePlaceToo() {
        TokenMesh x = new TokenMesh(2, 0, 1);
        x.issue(0, false, 0, 0);
        x.tick(1);
        Check.bring(x, Check.read(0, 2, 0));
        Check.bring(x, Check.copy(2, 0, 0, 1));
        Check.dueLetters("left", x, Check.read(0, 1, 0), Check.please(0, 2, 0), Check.over(0, 2));
        x.issue(0, false, 1, 0);
        Check.dueLetters("READ of block 1", x, Check.please(0, 2, 0), Check.over(0, 2),
                Check.read(0, 1, 1), Check.read(0, 2, 1));
        x.tick(1);
        Check.dueLetters("PLEASE of block 1", x, Check.over(0, 2),
                Check.read(0, 1, 1), Check.read(0, 2, 1), Check.please(0, 2, 1));
        Check.bring(x, Check.read(0, 2, 1));
        Check.bring(x, Check.copy(2, 0, 1, 1));
        x.issue(0, true, 0, 0);
        Check.dueLetters("a WRITE leaves READs", x, Check.read(0, 1, 1), Check.please(0, 2, 1), Check.over(0, 2),
                Check.write(0, 1, 0), Check.write(0, 2, 0));
    }

    private static void knowsOfOtherBlocksStay() {
        TokenMesh x = new TokenMesh(2, 0, 1);
        x.issue(0, true, 0, 0);
        x.issue(1, true, 1, 0);
        x.tick(1);
        for (int i = 0; i < 4; i++) {
            x.deliver(0);
        }
        Check.due("both homes' tokens are on the way", x.tokens(2, 0) + x.tokens(2, 1), 0);
        Check.bring(x, Check.please(0, 2, 0));
        Check.bring(x, Check.please(1, 2, 1));
        int n = x.letters();
        Check.due("KNOW", x.letter(n - 4), Check.know(2, 0, 0));
        Check.due("KNOW", x.letter(n - 3), Check.know(2, 1, 0));
        Check.due("KNOW", x.letter(n - 2), Check.know(2, 0, 1));
        Check.due("KNOW", x.letter(n - 1), Check.know(2, 1, 1));
        Check.bring(x, Check.owner(2, 0, 0, 3));
        Check.bring(x, Check.over(0, 2));
        n = x.letters();
        Check.due("KNOW of none is last", x.letter(n - 1), Check.know(2, 1, 0));
        Check.due("KNOW of none is last", x.letter(n - 2), Check.know(2, 0, 0));
        Check.due("others stay", x.letter(n - 3), Check.know(2, 1, 1));
        Check.due("others stay", x.letter(n - 4), Check.know(2, 0, 1));
        Check.due("no more of them", x.letters(), 5);
    }

    private static void tokensNeverTakeAPlace() {
        TokenMesh x = new TokenMesh(2, 4, 1);
        x.issue(0, false, 0, 0);
        Check.bring(x, Check.read(0, 2, 0));
        x.tick(1);
        Check.bring(x, Check.read(0, 2, 0));
        x.tick(1);
        Check.bring(x, Check.read(0, 2, 0));
        Check.dueLetters("three of them", x, Check.copy(2, 0, 0, 1), Check.copy(2, 0, 0, 1),
                Check.read(0, 1, 0), Check.owner(2, 0, 0, 1));
        x.deliver(0);
        x.deliver(0);
        x.deliver(1);
        Check.due("all have come", x.tokens(0, 0), 8 + 16 + 3);
    }

    /** Two accesses of core 0 have ended as persistent ones before the first OVER is delivered. */
    private static void oversTakeThePlace() {
        TokenMesh x = new TokenMesh(2, 0, 1);
        for (int b = 0; b < 2; b++) {
            x.issue(0, true, b, 5);
            x.tick(1);
            Check.bring(x, Check.please(0, 2, b));
            Check.bring(x, Check.owner(2, 0, b, 3));
        }
        int overs = 0;
        for (int i = 0; i < x.letters(); i++) {
            if (x.letter(i) == Check.over(0, 2)) {
                overs++;
            }
        }
        Check.due("OVERs that wait", overs, 1);
        Check.due("the second PLEASE ended the first request", x.knows(2, 0), -1);
        Check.due("active", x.knows(2, 1), 8);
        Check.bring(x, Check.over(0, 2));
        Check.due("the OVER was the later one", x.knows(2, 1), -1);
    }
}
