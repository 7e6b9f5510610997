/** Promise 4, and with it what each kind of letter does. */
public final class DeliverTest {
    public static void main(String[] args) {
        noLetter();
        anyOrder();
        readLetters();
        writeLetters();
        tokensGiveWayToWriting();
        tokensGiveWayToReading();
        pleaseLetters();
        pleaseLapsesOlder();
        pleaseAfterOver();
        knowLetters();
        overLetters();
        overStartsTheNext();
        lapseInBothBlocks();
        Check.finish();
    }

    private static void noLetter() {
        TokenMesh x = new TokenMesh(2, 0, 1);
        Check.due("of none", x.deliver(0), -1);
        x.issue(0, false, 0, 0);
        int[] bad = {Integer.MIN_VALUE, -1, 2, 3, Integer.MAX_VALUE};
        for (int i : bad) {
            Check.due("deliver(" + i + ")", x.deliver(i), -1);
        }
        Check.due("letters", x.letters(), 2);
        Check.due("deliver(1)", x.deliver(1), 1);
    }

    private static void anyOrder() {
        TokenMesh x = new TokenMesh(3, 0, 9);
        x.issue(2, true, 1, 0);
        Check.due("middle", x.deliver(1), 2);
        Check.dueLetters("the others stay in order", x, Check.write(2, 0, 1), Check.write(2, 3, 1));
    }

    private static void readLetters() {
        TokenMesh x = new TokenMesh(2, 4, 20);
        Check.readFrom(x, 2, 0, 0);
        Check.due("home keeps two", x.tokens(2, 0), 8 + 16 + 2);
        Check.due("core has one", x.tokens(0, 0), 16 + 1);
        x.issue(1, false, 0, 0);
        Check.bring(x, Check.read(1, 0, 0));
        Check.due("no owner, so nothing", x.tokens(0, 0), 17);
        Check.bring(x, Check.read(1, 2, 0));
        Check.bring(x, Check.copy(2, 1, 0, 1));
        Check.due("home keeps the owner", x.tokens(2, 0), 8 + 16 + 1);
        Check.due("evict", x.evict(1, 0), true);
        x.issue(1, false, 0, 0);
        Check.bring(x, Check.read(1, 2, 0));
        Check.due("the owner goes if it is the only one", x.tokens(2, 0), 0);
        Check.bring(x, Check.owner(2, 1, 0, 1));
        Check.due("core has the owner", x.tokens(1, 0), 8 + 16 + 1);
        Check.bring(x, Check.bare(1, 2, 0, 1));
        Check.due("home has a token without data", x.tokens(2, 0), 1);
    }

    private static void writeLetters() {
        TokenMesh x = new TokenMesh(3, 4, 20);
        Check.writeFromHome(x, 3, 0, 1, 7);
        Check.readFrom(x, 0, 1, 1);
        x.issue(2, true, 1, 9);
        Check.bring(x, Check.write(2, 1, 1));
        Check.due("core 1 gave all", x.tokens(1, 1), 0);
        int waiting = x.letters();
        Check.bring(x, Check.write(2, 3, 1));
        Check.due("the home has none to give", x.letters(), waiting - 1);
        Check.bring(x, Check.bare(1, 2, 1, 1));
        Check.due("not yet", x.state(2), 1);
        Check.bring(x, Check.write(2, 0, 1));
        Check.bring(x, Check.owner(0, 2, 1, 3));
        Check.due("ended", x.state(2), 0);
        Check.due("result", x.result(2), 7);
        Check.due("data", x.data(2, 1), 9);
        Check.due("tokens", x.tokens(2, 1), 8 + 16 + 4);
    }

    /** A KNOW has come to core 0 before the tokens that it wrote for in vain. */
    private static void tokensGiveWayToWriting() {
        TokenMesh x = new TokenMesh(2, 0, 1);
        x.issue(0, true, 0, 5);
        Check.bring(x, Check.write(0, 2, 0));
        x.issue(1, true, 0, 6);
        x.tick(1);
        Check.bring(x, Check.please(1, 2, 0));
        Check.bring(x, Check.know(2, 0, 0));
        Check.bring(x, Check.owner(2, 0, 0, 3));
        Check.due("gave them on before it could write", x.state(0), 9);
        Check.due("ended", x.ended(0), 0);
        Check.due("tokens", x.tokens(0, 0), 0);
        Check.bring(x, Check.owner(0, 1, 0, 3));
        Check.due("core 1 wrote", x.data(1, 0), 6);
        Check.due("result", x.result(1), 0);
        Check.bring(x, Check.over(1, 2));
        Check.due("now core 0 is served", x.knows(2, 0), -1);
        Check.bring(x, Check.please(0, 2, 0));
        Check.due("now core 0 is served", x.knows(2, 0), 8);
        Check.bring(x, Check.know(2, 1, 0));
        Check.bring(x, Check.owner(1, 0, 0, 3));
        Check.due("core 0 knows of core 1 still, and gives them back", x.ended(0), 0);
        Check.bring(x, Check.know(2, 0, 0));
        Check.bring(x, Check.owner(0, 1, 0, 3));
        Check.due("core 1 passes them on", x.tokens(1, 0), 0);
        Check.bring(x, Check.owner(1, 0, 0, 3));
        Check.due("data", x.data(0, 0), 5);
        Check.due("result", x.result(0), 6);
    }

    /** Core 0 reads with what is left after it gave the owner away. */
    private static void tokensGiveWayToReading() {
        TokenMesh x = new TokenMesh(2, 4, 1);
        Check.writeFromHome(x, 2, 0, 0, 5);
        x.evict(0, 0);
        x.issue(0, true, 0, 6);
        Check.bring(x, Check.owner(0, 2, 0, 3));
        Check.bring(x, Check.write(0, 2, 0));
        x.issue(1, false, 0, 0);
        x.tick(5);
        Check.bring(x, Check.please(1, 2, 0));
        Check.bring(x, Check.know(2, 0, 0));
        Check.bring(x, Check.owner(2, 0, 0, 3));
        Check.due("only the owner went", x.tokens(0, 0), 16 + 2);
        Check.due("data stays", x.data(0, 0), 5);
        Check.due("not all are left to write", x.state(0), 13);
        Check.bring(x, Check.owner(0, 1, 0, 1));
        Check.due("core 1 has read", x.result(1), 5);

        TokenMesh y = new TokenMesh(2, 0, 1);
        Check.writeFromHome(y, 2, 0, 0, 5);
        y.evict(0, 0);
        y.issue(0, false, 0, 0);
        y.issue(1, false, 0, 0);
        y.tick(1);
        Check.bring(y, Check.please(0, 2, 0));
        Check.bring(y, Check.please(1, 2, 0));
        Check.bring(y, Check.owner(0, 2, 0, 3));
        Check.bring(y, Check.owner(2, 0, 0, 1));
        Check.bring(y, Check.over(0, 2));
        Check.bring(y, Check.know(2, 0, 0));
        Check.bring(y, Check.owner(0, 1, 0, 1));
        Check.due("core 1 has read", y.result(1), 5);
        Check.due("core 1 has the owner", y.tokens(1, 0), 8 + 16 + 1);
        Check.due("core 0 has nothing", y.tokens(0, 0), 0);
    }

    private static void pleaseLetters() {
        TokenMesh x = new TokenMesh(4, 0, 1);
        for (int c = 0; c < 4; c++) {
            x.issue(c, c % 2 == 1, 1, 10 + c);
        }
        x.tick(1);
        Check.bring(x, Check.please(2, 4, 1));
        Check.due("active at home", x.knows(4, 1), 2);
        Check.due("row", x.row(1), 0);
        Check.due("home gave the owner alone", x.tokens(4, 1), 16 + 4);
        int n = x.letters();
        for (int c = 0; c < 4; c++) {
            Check.due("KNOW to " + c, x.letter(n - 5 + c), Check.know(4, c, 1));
        }
        Check.due("then the owner", x.letter(n - 1), Check.owner(4, 2, 1, 1));
        Check.bring(x, Check.please(3, 4, 1));
        Check.bring(x, Check.please(1, 4, 1));
        Check.due("row", x.row(1), 2);
        Check.due("row of the other block", x.row(0), 0);
        Check.due("active still", x.knows(4, 1), 2);
        Check.due("no letter for those in the row", x.letters(), n - 2);
        Check.bring(x, Check.owner(4, 2, 1, 1));
        Check.bring(x, Check.over(2, 4));
        Check.due("the first of the row is next", x.knows(4, 1), 8 + 3);
        Check.due("row", x.row(1), 1);
        Check.due("home gave all the rest", x.tokens(4, 1), 0);
        Check.bring(x, Check.bare(4, 3, 1, 4));
        Check.due("core 3 lacks the owner", x.tokens(3, 1), 4);
        Check.bring(x, Check.know(4, 2, 1));
        Check.bring(x, Check.owner(2, 3, 1, 1));
        Check.due("core 3 wrote", x.data(3, 1), 13);
    }

    /** A PLEASE tells the home that the earlier access of that core is over, before the OVER does. */
    private static void pleaseLapsesOlder() {
        TokenMesh x = new TokenMesh(2, 0, 1);
        x.issue(0, false, 0, 0);
        x.issue(1, false, 0, 0);
        x.tick(1);
        Check.bring(x, Check.please(0, 2, 0));
        Check.bring(x, Check.please(1, 2, 0));
        Check.bring(x, Check.owner(2, 0, 0, 1));
        Check.due("core 0 has read", x.ended(0), 1);
        x.issue(0, true, 1, 4);
        x.tick(1);
        Check.bring(x, Check.please(0, 2, 1));
        Check.due("block 0 goes on", x.knows(2, 0), 1);
        Check.due("block 1 is active", x.knows(2, 1), 8);
        Check.due("row 0", x.row(0), 0);
        Check.due("row 1", x.row(1), 0);
        Check.bring(x, Check.over(0, 2));
        Check.due("the late OVER does nothing to block 1", x.knows(2, 1), 8);
        Check.due("nor to block 0", x.knows(2, 0), 1);
    }

    private static void pleaseAfterOver() {
        TokenMesh x = new TokenMesh(2, 0, 1);
        x.issue(0, true, 0, 3);
        x.tick(1);
        Check.bring(x, Check.write(0, 2, 0));
        Check.bring(x, Check.owner(2, 0, 0, 3));
        Check.bring(x, Check.over(0, 2));
        Check.due("no request to lapse", x.knows(2, 0), -1);
        Check.bring(x, Check.please(0, 2, 0));
        Check.due("lapsed before it came", x.knows(2, 0), -1);
        Check.due("row", x.row(0), 0);
        Check.dueLetters("nothing was sent", x, Check.write(0, 1, 0));
    }

    private static void knowLetters() {
        TokenMesh x = new TokenMesh(3, 0, 1);
        Check.writeFromHome(x, 3, 0, 0, 21);
        Check.readFrom(x, 0, 2, 0);
        x.issue(1, false, 0, 0);
        x.tick(1);
        Check.bring(x, Check.please(1, 3, 0));
        Check.bring(x, Check.know(3, 2, 0));
        Check.due("core 2 has no owner to give", x.tokens(2, 0), 17);
        Check.due("core 2 knows", x.knows(2, 0), 1);
        Check.bring(x, Check.know(3, 0, 0));
        Check.due("core 0 gave the owner alone", x.tokens(0, 0), 16 + 2);
        Check.bring(x, Check.know(3, 1, 0));
        Check.due("core 1 knows its own", x.knows(1, 0), 1);
        Check.bring(x, Check.owner(0, 1, 0, 1));
        Check.due("core 1 keeps the owner", x.tokens(1, 0), 8 + 16 + 1);
        Check.due("core 1 has read", x.result(1), 21);
        x.issue(2, true, 0, 1);
        Check.bring(x, Check.write(2, 0, 0));
        Check.due("who knows heeds no WRITE", x.tokens(0, 0), 18);
        Check.bring(x, Check.write(2, 1, 0));
        Check.due("nor who knows its own", x.tokens(1, 0), 25);
        Check.bring(x, Check.over(1, 3));
        Check.bring(x, Check.know(3, 1, 0));
        Check.due("none any more, of the same serial", x.knows(1, 0), -1);
        Check.due("core 0 knows still", x.knows(0, 0), 1);
        x.tick(1);
        Check.bring(x, Check.please(2, 3, 0));
        Check.bring(x, Check.know(3, 0, 0));
        Check.due("core 0 knows the next", x.knows(0, 0), 8 + 2);
        Check.due("core 0 gave all", x.tokens(0, 0), 0);
        Check.bring(x, Check.bare(0, 2, 0, 2));
        Check.bring(x, Check.know(3, 2, 0));
        Check.bring(x, Check.know(3, 1, 0));
        Check.bring(x, Check.owner(1, 2, 0, 1));
        Check.due("core 2 wrote", x.memory(0), 1);
    }

    private static void overLetters() {
        TokenMesh x = new TokenMesh(2, 0, 1);
        x.issue(0, false, 1, 0);
        x.tick(1);
        Check.bring(x, Check.please(0, 2, 1));
        Check.bring(x, Check.know(2, 0, 1));
        Check.bring(x, Check.know(2, 1, 1));
        Check.bring(x, Check.owner(2, 0, 1, 1));
        Check.dueLetters("an OVER is sent", x, Check.read(0, 1, 1), Check.read(0, 2, 1), Check.over(0, 2));
        Check.bring(x, Check.read(0, 2, 1));
        Check.bring(x, Check.over(0, 2));
        Check.due("home knows of none", x.knows(2, 1), -1);
        Check.due("core 0 does not yet", x.knows(0, 1), 0);
        Check.dueLetters("all are told", x, Check.read(0, 1, 1), Check.know(2, 0, 1), Check.know(2, 1, 1));
        x.deliver(1);
        Check.due("core 0 knows of none", x.knows(0, 1), -1);
        Check.due("core 1 does not yet", x.knows(1, 1), 0);
        x.deliver(1);
        Check.due("core 1 knows of none", x.knows(1, 1), -1);
    }

    private static void overStartsTheNext() {
        TokenMesh x = new TokenMesh(2, 0, 1);
        x.issue(0, true, 0, 3);
        x.issue(1, true, 0, 4);
        x.tick(1);
        for (int i = 0; i < 4; i++) {
            x.deliver(0);
            if (i == 1) {
                // The home heard core 0; its tokens must not end the access before the PLEASE.
                Check.due("tokens wait last", x.letter(x.letters() - 1), Check.owner(2, 0, 0, 3));
            }
        }
        Check.bring(x, Check.please(0, 2, 0));
        Check.bring(x, Check.please(1, 2, 0));
        Check.bring(x, Check.owner(2, 0, 0, 3));
        Check.dueLetters("before the OVER", x, Check.know(2, 0, 0), Check.know(2, 1, 0), Check.over(0, 2));
        x.deliver(2);
        Check.dueLetters("KNOWs of the next took the places", x, Check.know(2, 0, 0), Check.know(2, 1, 0));
        x.deliver(0);
        Check.due("core 0 knows the next", x.knows(0, 0), 9);
        Check.bring(x, Check.owner(0, 1, 0, 3));
        Check.due("data", x.data(1, 0), 4);
        Check.due("result", x.result(1), 3);
    }

    /** A request in the row of one block lapses by the PLEASE of a later access of the other one. */
    private static void lapseInBothBlocks() {
        TokenMesh x = new TokenMesh(3, 0, 1);
        x.issue(0, true, 0, 3);
        x.issue(1, false, 0, 4);
        x.issue(2, false, 0, 4);
        x.tick(1);
        Check.bring(x, Check.read(1, 3, 0));
        Check.bring(x, Check.please(0, 3, 0));
        Check.bring(x, Check.please(1, 3, 0));
        Check.bring(x, Check.please(2, 3, 0));
        Check.due("row 0", x.row(0), 2);
        Check.bring(x, Check.copy(3, 1, 0, 1));
        Check.due("core 1 has read by other means", x.ended(1), 1);
        x.issue(1, true, 1, 9);
        x.tick(1);
        Check.bring(x, Check.please(1, 3, 1));
        Check.due("row 0 lost the lapsed one", x.row(0), 1);
        Check.due("block 0 is still of core 0", x.knows(3, 0), 8);
        Check.due("block 1 is of core 1", x.knows(3, 1), 9);
    }
}
