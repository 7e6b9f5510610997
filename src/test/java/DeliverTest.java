/** Promise 4, and with it what each kind of letter does. */
public final class DeliverTest {
    public static void main(String[] args) {
        Check.test("-1 when there is none: no letter waits", DeliverTest::noLetterWaits);
        Check.test("-1 when there is none: i is too small", () -> dueNone(Check.TOO_SMALL));
        Check.test("-1 when there is none: i is too large", () -> dueNone(Check.tooLarge(2)));
        Check.test("places are from 0 to one less than there are", DeliverTest::firstAndLast);
        Check.test("they wait no more then", DeliverTest::delivered);
        Check.test("letters are delivered as one likes", DeliverTest::anyOrder);
        Check.test("the answer is the kind of the letter", DeliverTest::kinds);

        Check.test("READ: one that is not the owner, else the owner", DeliverTest::readLetters);
        Check.test("READ: x has just one token more than the owner", DeliverTest::readOfTwo);
        Check.test("READ: nothing if x has not the owner", DeliverTest::readWithoutOwner);
        Check.test("READ: nothing if x has no token at all", DeliverTest::readWithoutTokens);
        Check.test("READ: nothing if x knows of an active request", DeliverTest::readWhileActive);
        Check.test("READ: the other block does not matter", DeliverTest::readOfTheOtherBlock);

        Check.test("WRITE: all tokens that x has", DeliverTest::writeLetters);
        Check.test("WRITE: if any", DeliverTest::writeWithoutTokens);
        Check.test("WRITE: nothing if x knows of an active request", DeliverTest::writeWhileActive);

        Check.test("TOKENS: gives way to writing before it ends", DeliverTest::tokensGiveWayToWriting);
        Check.test("TOKENS: gives way to reading before it ends", DeliverTest::tokensGiveWayToReading);
        Check.test("TOKENS: no access of b under way", DeliverTest::tokensForNoAccess);
        Check.test("TOKENS: an access of the other block stays", DeliverTest::tokensOfTheOtherBlock);

        Check.test("PLEASE: the row, and the first of it becomes active", DeliverTest::pleaseLetters);
        Check.test("PLEASE: requests lapse up to n - 1", DeliverTest::pleaseLapsesOlder);
        Check.test("PLEASE: nothing if n is not greater than what has lapsed", DeliverTest::pleaseAfterOver);
        Check.test("PLEASE: n is just one greater than what has lapsed", DeliverTest::pleaseOneGreater);
        Check.test("PLEASE: put behind the others in the row", DeliverTest::pleaseGoesBehind);

        Check.test("KNOW: known from now on, and gives way", DeliverTest::knowLetters);
        Check.test("KNOW: the same serial and there is none", DeliverTest::knowOfNone);
        Check.test("KNOW: a serial greater by two", DeliverTest::knowAfterAGap);
        Check.test("KNOW: of the core's own request", DeliverTest::knowOfOwn);

        Check.test("OVER: the requests lapse up to n", DeliverTest::overLetters);
        Check.test("OVER: the first of the row becomes active", DeliverTest::overStartsTheNext);
        Check.test("OVER: nothing if they have lapsed already", DeliverTest::overTooLate);
        Check.test("OVER: a request in the row of block 0 is taken out", () -> overOfOneInTheRow(0));
        Check.test("OVER: a request in the row of block 1 is taken out", () -> overOfOneInTheRow(1));
        Check.test("OVER: the active request has a smaller number", DeliverTest::overLapsesOlderActive);
        Check.test("OVER: no request of c is there", DeliverTest::overWithoutRequest);
        Check.test("lapse: in the row of block 0 by a PLEASE of block 1", () -> lapseInTheOtherBlock(0));
        Check.test("lapse: in the row of block 1 by a PLEASE of block 0", () -> lapseInTheOtherBlock(1));
        Check.test("lapse: a number smaller by two, in the row", DeliverTest::lapseOfMuchOlderInTheRow);
        Check.test("lapse: a number smaller by two, active", DeliverTest::lapseOfMuchOlderActive);
        Check.finish();
    }

    private static void noLetterWaits() {
        TokenMesh x = new TokenMesh(2, 0, 1);
        Check.due("deliver(0) of a new one", x.deliver(0), -1);
        Check.due("deliver(-1) of a new one", x.deliver(-1), -1);
        Check.due("deliver(1) of a new one", x.deliver(1), -1);
        x.issue(0, false, 0, 0);
        Check.due("deliver(0)", x.deliver(0), 1);
        Check.due("deliver(0)", x.deliver(0), 1);
        Check.due("deliver(0), the TOKENS", x.deliver(0), 3);
        Check.due("deliver(0) when all have been delivered", x.deliver(0), -1);
        Check.due("tokens", x.tokens(0, 0), 17);
    }

    private static void dueNone(int[] places) {
        TokenMesh x = new TokenMesh(2, 0, 1);
        x.issue(0, false, 0, 0);
        for (int i : places) {
            Check.due("deliver(" + i + ")", x.deliver(i), -1);
        }
        Check.dueLetters("all wait still", x, Check.read(0, 1, 0), Check.read(0, 2, 0));
        Check.due("the home has all", x.tokens(2, 0), 27);
    }

    private static void firstAndLast() {
        TokenMesh x = new TokenMesh(4, 0, 9);
        x.issue(0, true, 0, 0);
        Check.due("behind the last", x.deliver(4), -1);
        Check.due("the last", x.deliver(3), 2);
        Check.due("the home gave all", x.tokens(4, 0), 0);
        Check.due("the first", x.deliver(0), 2);
        Check.dueLetters("left", x, Check.write(0, 2, 0), Check.write(0, 3, 0), Check.owner(4, 0, 0, 5));
        Check.due("behind the last now", x.deliver(3), -1);
    }

    private static void delivered() {
        TokenMesh x = new TokenMesh(2, 0, 9);
        x.issue(0, true, 0, 4);
        Check.due("WRITE to core 1", x.deliver(0), 2);
        Check.dueLetters("one is left", x, Check.write(0, 2, 0));
        Check.due("WRITE to the home", x.deliver(0), 2);
        Check.dueLetters("TOKENS", x, Check.owner(2, 0, 0, 3));
        Check.due("TOKENS", x.deliver(0), 3);
        Check.dueLetters("none is left", x);
        Check.due("tokens come once", x.tokens(0, 0), 27);
    }

    private static void kinds() {
        TokenMesh x = new TokenMesh(2, 0, 1);
        x.issue(0, false, 1, 0);
        x.issue(1, true, 1, 0);
        x.tick(1);
        Check.due("READ", x.deliver(0), 1);
        Check.due("WRITE", x.deliver(1), 2);
        Check.due("PLEASE", x.deliver(2), 4);
        Check.due("KNOW", x.deliver(3), 5);
        Check.due("TOKENS", x.deliver(4), 3);
        Check.due("OVER", x.deliver(4), 6);
    }

    private static void anyOrder() {
        TokenMesh x = new TokenMesh(3, 0, 9);
        x.issue(2, true, 1, 0);
        Check.due("middle", x.deliver(1), 2);
        Check.dueLetters("the others stay in order", x, Check.write(2, 0, 1), Check.write(2, 3, 1));
    }

    private static void readLetters() {
        TokenMesh x = new TokenMesh(2, 4, 20);
        Check.readFrom(x, 2, 0, 0);
        Check.due("home keeps two", x.tokens(2, 0), 8 + 16 + 2);
        Check.due("core has one", x.tokens(0, 0), 16 + 1);
        x.issue(1, false, 0, 0);
        Check.bring(x, Check.read(1, 0, 0));
        Check.due("no owner, so nothing", x.tokens(0, 0), 17);
        Check.bring(x, Check.read(1, 2, 0));
        Check.bring(x, Check.copy(2, 1, 0, 1));
        Check.due("home keeps the owner", x.tokens(2, 0), 8 + 16 + 1);
        Check.due("evict", x.evict(1, 0), true);
        x.issue(1, false, 0, 0);
        Check.bring(x, Check.read(1, 2, 0));
        Check.due("the owner goes if it is the only one", x.tokens(2, 0), 0);
        Check.bring(x, Check.owner(2, 1, 0, 1));
        Check.due("core has the owner", x.tokens(1, 0), 8 + 16 + 1);
        Check.bring(x, Check.bare(1, 2, 0, 1));
        Check.due("home has a token without data", x.tokens(2, 0), 1);
    }

    private static void readOfTwo() {
        TokenMesh x = new TokenMesh(2, 4, 20);
        Check.writeFromHome(x, 2, 0, 0, 8);
        Check.readFrom(x, 0, 1, 0);
        Check.due("two are left", x.tokens(0, 0), 2 + 8 + 16);
        x.evict(1, 0);
        x.issue(1, false, 0, 0);
        Check.bring(x, Check.read(1, 0, 0));
        Check.due("the owner is left", x.tokens(0, 0), 1 + 8 + 16);
        Check.bring(x, Check.copy(0, 1, 0, 1));
        x.evict(1, 0);
        x.issue(1, false, 0, 0);
        Check.bring(x, Check.read(1, 0, 0));
        Check.due("nothing is left", x.tokens(0, 0), 0);
        Check.bring(x, Check.owner(0, 1, 0, 1));
        Check.due("result", x.result(1), 8);
    }

    private static void readWithoutOwner() {
        TokenMesh x = new TokenMesh(3, 4, 20);
        Check.readFrom(x, 3, 0, 0);
        Check.readFrom(x, 3, 1, 0);
        // Core 0 comes to have two tokens with data, and yet not the owner.
        x.issue(0, true, 0, 5);
        Check.bring(x, Check.write(0, 1, 0));
        Check.bring(x, Check.bare(1, 0, 0, 1));
        Check.due("two", x.tokens(0, 0), 2 + 16);
        x.issue(2, false, 0, 0);
        int waiting = x.letters();
        Check.bring(x, Check.read(2, 0, 0));
        Check.due("keeps both", x.tokens(0, 0), 2 + 16);
        Check.due("sends nothing", x.letters(), waiting - 1);
    }

    private static void readWithoutTokens() {
        TokenMesh x = new TokenMesh(2, 4, 20);
        x.issue(0, false, 1, 5);
        Check.bring(x, Check.read(0, 1, 1));
        Check.dueLetters("a core that has none", x, Check.read(0, 2, 1));

        TokenMesh y = new TokenMesh(2, 4, 20);
        Check.writeFromHome(y, 2, 0, 1, 5);
        y.issue(1, false, 1, 5);
        Check.bring(y, Check.read(1, 2, 1));
        Check.dueLetters("a home that has none", y, Check.write(0, 1, 1), Check.read(1, 0, 1));
    }

    /** Core 0 has the owner and knows of its own request; the home knows it as well. */
    private static void readWhileActive() {
        TokenMesh x = new TokenMesh(3, 0, 1);
        x.issue(0, false, 0, 5);
        x.tick(1);
        x.issue(1, false, 0, 5);
        Check.bring(x, Check.please(0, 3, 0));
        Check.bring(x, Check.owner(3, 0, 0, 1));
        Check.bring(x, Check.know(3, 0, 0));
        int waiting = x.letters();
        Check.bring(x, Check.read(1, 0, 0));
        Check.due("keeps the owner", x.tokens(0, 0), 1 + 8 + 16);
        Check.due("sends nothing", x.letters(), waiting - 1);
        Check.bring(x, Check.over(0, 3));
        Check.bring(x, Check.know(3, 0, 0));
        x.tick(1);
        x.issue(2, false, 0, 0);
        Check.bring(x, Check.read(2, 0, 0));
        Check.due("gives it when there is none any more", x.tokens(0, 0), 0);
    }

    private static void readOfTheOtherBlock() {
        TokenMesh x = new TokenMesh(2, 0, 1);
        x.issue(0, true, 0, 5);
        x.tick(1);
        Check.bring(x, Check.please(0, 2, 0));
        x.issue(1, false, 1, 0);
        Check.bring(x, Check.read(1, 2, 1));
        Check.bring(x, Check.copy(2, 1, 1, 1));
        Check.due("block 1 has no active request", x.ended(1), 1);
        Check.due("home of block 1", x.tokens(2, 1), 2 + 8 + 16);
    }

    private static void writeLetters() {
        TokenMesh x = new TokenMesh(3, 4, 20);
        Check.writeFromHome(x, 3, 0, 1, 7);
        Check.readFrom(x, 0, 1, 1);
        x.issue(2, true, 1, 9);
        Check.bring(x, Check.write(2, 1, 1));
        Check.due("core 1 gave all", x.tokens(1, 1), 0);
        int waiting = x.letters();
        Check.bring(x, Check.write(2, 3, 1));
        Check.due("the home has none to give", x.letters(), waiting - 1);
        Check.bring(x, Check.bare(1, 2, 1, 1));
        Check.due("not yet", x.state(2), 1);
        Check.bring(x, Check.write(2, 0, 1));
        Check.bring(x, Check.owner(0, 2, 1, 3));
        Check.due("ended", x.state(2), 0);
        Check.due("result", x.result(2), 7);
        Check.due("data", x.data(2, 1), 9);
        Check.due("tokens", x.tokens(2, 1), 8 + 16 + 4);
    }

    private static void writeWithoutTokens() {
        TokenMesh x = new TokenMesh(2, 4, 20);
        x.issue(0, true, 1, 5);
        Check.bring(x, Check.write(0, 1, 1));
        Check.dueLetters("a core that has none", x, Check.write(0, 2, 1));
        Check.bring(x, Check.write(0, 2, 1));
        x.issue(1, true, 1, 6);
        Check.bring(x, Check.write(1, 2, 1));
        Check.bring(x, Check.write(1, 0, 1));
        Check.dueLetters("neither the home nor core 0 has any yet", x, Check.owner(2, 0, 1, 3));
        Check.due("tokens", x.tokens(2, 1), 0);
    }

    private static void writeWhileActive() {
        TokenMesh x = new TokenMesh(3, 0, 1);
        x.issue(0, false, 0, 5);
        x.tick(1);
        Check.bring(x, Check.please(0, 3, 0));
        x.issue(1, true, 0, 5);
        int waiting = x.letters();
        Check.bring(x, Check.write(1, 3, 0));
        Check.due("the home keeps what it did not give to core 0", x.tokens(3, 0), 3 + 16);
        Check.due("sends nothing", x.letters(), waiting - 1);
        Check.bring(x, Check.owner(3, 0, 0, 1));
        Check.bring(x, Check.write(1, 0, 0));
        Check.due("core 0 was not told of its own request", x.tokens(0, 0), 0);
        Check.bring(x, Check.owner(0, 1, 0, 1));
        Check.due("core 1 was not told either, and keeps it", x.tokens(1, 0), 1 + 8 + 16);
    }

    /** A KNOW has come to core 0 before the tokens that it wrote for in vain. */
    private static void tokensGiveWayToWriting() {
        TokenMesh x = new TokenMesh(2, 0, 1);
        x.issue(0, true, 0, 5);
        Check.bring(x, Check.write(0, 2, 0));
        x.issue(1, true, 0, 6);
        x.tick(1);
        Check.bring(x, Check.please(1, 2, 0));
        Check.bring(x, Check.know(2, 0, 0));
        Check.bring(x, Check.owner(2, 0, 0, 3));
        Check.due("gave them on before it could write", x.state(0), 9);
        Check.due("ended", x.ended(0), 0);
        Check.due("tokens", x.tokens(0, 0), 0);
        Check.bring(x, Check.owner(0, 1, 0, 3));
        Check.due("core 1 wrote", x.data(1, 0), 6);
        Check.due("result", x.result(1), 0);
        Check.bring(x, Check.over(1, 2));
        Check.due("now core 0 is served", x.knows(2, 0), -1);
        Check.bring(x, Check.please(0, 2, 0));
        Check.due("now core 0 is served", x.knows(2, 0), 8);
        Check.bring(x, Check.know(2, 1, 0));
        Check.bring(x, Check.owner(1, 0, 0, 3));
        Check.due("core 0 knows of core 1 still, and gives them back", x.ended(0), 0);
        Check.bring(x, Check.know(2, 0, 0));
        Check.bring(x, Check.owner(0, 1, 0, 3));
        Check.due("core 1 passes them on", x.tokens(1, 0), 0);
        Check.bring(x, Check.owner(1, 0, 0, 3));
        Check.due("data", x.data(0, 0), 5);
        Check.due("result", x.result(0), 6);
    }

    /** Core 0 reads with what is left after it gave the owner away. */
    private static void tokensGiveWayToReading() {
        TokenMesh x = new TokenMesh(2, 4, 1);
        Check.writeFromHome(x, 2, 0, 0, 5);
        x.evict(0, 0);
        x.issue(0, true, 0, 6);
        Check.bring(x, Check.owner(0, 2, 0, 3));
        Check.bring(x, Check.write(0, 2, 0));
        x.issue(1, false, 0, 0);
        x.tick(5);
        Check.bring(x, Check.please(1, 2, 0));
        Check.bring(x, Check.know(2, 0, 0));
        Check.bring(x, Check.owner(2, 0, 0, 3));
        Check.due("only the owner went", x.tokens(0, 0), 16 + 2);
        Check.due("data stays", x.data(0, 0), 5);
        Check.due("not all are left to write", x.state(0), 13);
        Check.bring(x, Check.owner(0, 1, 0, 1));
        Check.due("core 1 has read", x.result(1), 5);

        TokenMesh y = new TokenMesh(2, 0, 1);
        Check.writeFromHome(y, 2, 0, 0, 5);
        y.evict(0, 0);
        y.issue(0, false, 0, 0);
        y.issue(1, false, 0, 0);
        y.tick(1);
        Check.bring(y, Check.please(0, 2, 0));
        Check.bring(y, Check.please(1, 2, 0));
        Check.bring(y, Check.owner(0, 2, 0, 3));
        Check.bring(y, Check.owner(2, 0, 0, 1));
        Check.bring(y, Check.over(0, 2));
        Check.bring(y, Check.know(2, 0, 0));
        Check.bring(y, Check.owner(0, 1, 0, 1));
        Check.due("core 1 has read", y.result(1), 5);
        Check.due("core 1 has the owner", y.tokens(1, 0), 8 + 16 + 1);
        Check.due("core 0 has nothing", y.tokens(0, 0), 0);
    }

    private static void tokensForNoAccess() {
        TokenMesh x = new TokenMesh(2, 4, 1);
        x.issue(0, false, 0, 0);
        Check.bring(x, Check.read(0, 2, 0));
        x.tick(1);
        Check.bring(x, Check.read(0, 2, 0));
        Check.bring(x, Check.copy(2, 0, 0, 1));
        Check.due("ended", x.ended(0), 1);
        Check.bring(x, Check.copy(2, 0, 0, 1));
        Check.due("nothing more ends", x.ended(0), 1);
        Check.due("both tokens are there", x.tokens(0, 0), 2 + 16);
        x.evict(0, 0);
        Check.bring(x, Check.bare(0, 2, 0, 2));
        Check.due("the home has no access", x.tokens(2, 0), 27);
    }

    /** The second token of block 0 comes late, while a read of block 1 is under way. */
    private static void tokensOfTheOtherBlock() {
        TokenMesh x = new TokenMesh(2, 4, 1);
        x.issue(0, false, 0, 0);
        Check.bring(x, Check.read(0, 2, 0));
        x.tick(1);
        Check.bring(x, Check.read(0, 2, 0));
        Check.bring(x, Check.copy(2, 0, 0, 1));
        x.issue(0, false, 1, 0);
        Check.bring(x, Check.copy(2, 0, 0, 1));
        Check.due("under way still", x.state(0), 1);
        Check.due("ended", x.ended(0), 1);
    }

    private static void pleaseLetters() {
        TokenMesh x = new TokenMesh(4, 0, 1);
        for (int c = 0; c < 4; c++) {
            x.issue(c, c % 2 == 1, 1, 10 + c);
        }
        x.tick(1);
        Check.bring(x, Check.please(2, 4, 1));
        Check.due("active at home", x.knows(4, 1), 2);
        Check.due("row", x.row(1), 0);
        Check.due("home gave the owner alone", x.tokens(4, 1), 16 + 4);
        int n = x.letters();
        for (int c = 0; c < 4; c++) {
            Check.due("KNOW to " + c, x.letter(n - 5 + c), Check.know(4, c, 1));
        }
        Check.due("then the owner", x.letter(n - 1), Check.owner(4, 2, 1, 1));
        Check.bring(x, Check.please(3, 4, 1));
        Check.bring(x, Check.please(1, 4, 1));
        Check.due("row", x.row(1), 2);
        Check.due("row of the other block", x.row(0), 0);
        Check.due("active still", x.knows(4, 1), 2);
        Check.due("no letter for those in the row", x.letters(), n - 2);
        Check.bring(x, Check.owner(4, 2, 1, 1));
        Check.bring(x, Check.over(2, 4));
        Check.due("the first of the row is next", x.knows(4, 1), 8 + 3);
        Check.due("row", x.row(1), 1);
        Check.due("home gave all the rest", x.tokens(4, 1), 0);
        Check.bring(x, Check.bare(4, 3, 1, 4));
        Check.due("core 3 lacks the owner", x.tokens(3, 1), 4);
        Check.bring(x, Check.know(4, 2, 1));
        Check.bring(x, Check.owner(2, 3, 1, 1));
        Check.due("core 3 wrote", x.data(3, 1), 13);
    }

    /** A PLEASE tells the home that the earlier access of that core is over, before the OVER does. */
    private static void pleaseLapsesOlder() {
        TokenMesh x = new TokenMesh(2, 0, 1);
        x.issue(0, false, 0, 0);
        x.issue(1, false, 0, 0);
        x.tick(1);
        Check.bring(x, Check.please(0, 2, 0));
        Check.bring(x, Check.please(1, 2, 0));
        Check.bring(x, Check.owner(2, 0, 0, 1));
        Check.due("core 0 has read", x.ended(0), 1);
        x.issue(0, true, 1, 4);
        x.tick(1);
        Check.bring(x, Check.please(0, 2, 1));
        Check.due("block 0 goes on", x.knows(2, 0), 1);
        Check.due("block 1 is active", x.knows(2, 1), 8);
        Check.due("row 0", x.row(0), 0);
        Check.due("row 1", x.row(1), 0);
        Check.bring(x, Check.over(0, 2));
        Check.due("the late OVER does nothing to block 1", x.knows(2, 1), 8);
        Check.due("nor to block 0", x.knows(2, 0), 1);
    }

    private static void pleaseAfterOver() {
        TokenMesh x = new TokenMesh(2, 0, 1);
        x.issue(0, true, 0, 3);
        x.tick(1);
        Check.bring(x, Check.write(0, 2, 0));
        Check.bring(x, Check.owner(2, 0, 0, 3));
        Check.bring(x, Check.over(0, 2));
        Check.due("no request to lapse", x.knows(2, 0), -1);
        Check.bring(x, Check.please(0, 2, 0));
        Check.due("lapsed before it came", x.knows(2, 0), -1);
        Check.due("row", x.row(0), 0);
        Check.dueLetters("nothing was sent", x, Check.write(0, 1, 0));
    }

    private static void pleaseOneGreater() {
        TokenMesh x = new TokenMesh(2, 0, 1);
        x.issue(0, true, 0, 3);
        x.tick(1);
        Check.bring(x, Check.write(0, 2, 0));
        Check.bring(x, Check.owner(2, 0, 0, 3));
        Check.bring(x, Check.over(0, 2));
        x.issue(0, true, 1, 3);
        x.tick(1);
        Check.bring(x, Check.please(0, 2, 1));
        Check.due("the next access's is taken", x.knows(2, 1), 8);
        Check.due("the one before is nowhere", x.knows(2, 0), -1);
        Check.due("row", x.row(0), 0);
    }

    /** Core 1 pleads a second time for block 0 while its first request stands in the row. */
    private static void pleaseGoesBehind() {
        TokenMesh x = new TokenMesh(3, 0, 1);
        for (int c = 0; c < 3; c++) {
            x.issue(c, c == 0, 0, 3);
        }
        x.tick(1);
        Check.bring(x, Check.read(1, 3, 0));
        for (int c = 0; c < 3; c++) {
            Check.bring(x, Check.please(c, 3, 0));
        }
        Check.bring(x, Check.copy(3, 1, 0, 1));
        Check.due("core 1 has read", x.ended(1), 1);
        x.issue(1, true, 0, 4);
        x.tick(1);
        Check.bring(x, Check.please(1, 3, 0));
        Check.due("the older one is out of the row", x.row(0), 2);
        Check.bring(x, Check.owner(3, 0, 0, 3));
        Check.bring(x, Check.know(3, 1, 0));
        Check.bring(x, Check.bare(1, 0, 0, 1));
        Check.bring(x, Check.over(0, 3));
        Check.due("core 2 is before core 1 now", x.knows(3, 0), 2);
        Check.due("row", x.row(0), 1);
    }

    private static void knowLetters() {
        TokenMesh x = new TokenMesh(3, 0, 1);
        Check.writeFromHome(x, 3, 0, 0, 21);
        Check.readFrom(x, 0, 2, 0);
        x.issue(1, false, 0, 0);
        x.tick(1);
        Check.bring(x, Check.please(1, 3, 0));
        Check.bring(x, Check.know(3, 2, 0));
        Check.due("core 2 has no owner to give", x.tokens(2, 0), 17);
        Check.due("core 2 knows", x.knows(2, 0), 1);
        Check.bring(x, Check.know(3, 0, 0));
        Check.due("core 0 gave the owner alone", x.tokens(0, 0), 16 + 2);
        Check.bring(x, Check.know(3, 1, 0));
        Check.due("core 1 knows its own", x.knows(1, 0), 1);
        Check.bring(x, Check.owner(0, 1, 0, 1));
        Check.due("core 1 keeps the owner", x.tokens(1, 0), 8 + 16 + 1);
        Check.due("core 1 has read", x.result(1), 21);
        x.issue(2, true, 0, 1);
        Check.bring(x, Check.write(2, 0, 0));
        Check.due("who knows heeds no WRITE", x.tokens(0, 0), 18);
        Check.bring(x, Check.write(2, 1, 0));
        Check.due("nor who knows its own", x.tokens(1, 0), 25);
        Check.bring(x, Check.over(1, 3));
        Check.bring(x, Check.know(3, 1, 0));
        Check.due("none any more, of the same serial", x.knows(1, 0), -1);
        Check.due("core 0 knows still", x.knows(0, 0), 1);
        x.tick(1);
        Check.bring(x, Check.please(2, 3, 0));
        Check.bring(x, Check.know(3, 0, 0));
        Check.due("core 0 knows the next", x.knows(0, 0), 8 + 2);
        Check.due("core 0 gave all", x.tokens(0, 0), 0);
        Check.bring(x, Check.bare(0, 2, 0, 2));
        Check.bring(x, Check.know(3, 2, 0));
        Check.bring(x, Check.know(3, 1, 0));
        Check.bring(x, Check.owner(1, 2, 0, 1));
        Check.due("core 2 wrote", x.memory(0), 1);
    }

    private static void knowOfNone() {
        TokenMesh x = new TokenMesh(2, 0, 1);
        x.issue(0, false, 1, 0);
        x.tick(1);
        Check.bring(x, Check.please(0, 2, 1));
        Check.bring(x, Check.know(2, 1, 1));
        Check.due("told", x.knows(1, 1), 0);
        Check.bring(x, Check.owner(2, 0, 1, 1));
        Check.bring(x, Check.over(0, 2));
        int waiting = x.letters();
        Check.bring(x, Check.know(2, 1, 1));
        Check.due("none, of the serial that core 1 knows", x.knows(1, 1), -1);
        Check.bring(x, Check.know(2, 0, 1));
        Check.due("none, of a serial that core 0 was not told", x.knows(0, 1), -1);
        Check.due("nobody gives way to none", x.letters(), waiting - 2);
    }

    /** Core 1 is told of the second request without ever having been told of the first. */
    private static void knowAfterAGap() {
        TokenMesh x = new TokenMesh(3, 0, 1);
        x.issue(0, false, 1, 0);
        x.issue(2, true, 1, 0);
        x.tick(1);
        Check.bring(x, Check.please(0, 3, 1));
        Check.bring(x, Check.please(2, 3, 1));
        Check.bring(x, Check.owner(3, 0, 1, 1));
        Check.bring(x, Check.over(0, 3));
        Check.due("not told yet", x.knows(1, 1), -1);
        Check.bring(x, Check.know(3, 1, 1));
        Check.due("told of the second", x.knows(1, 1), 8 + 2);
        Check.due("nothing to give", x.tokens(1, 1), 0);
        int waiting = x.letters();
        Check.bring(x, Check.know(3, 0, 1));
        Check.due("core 0 gave what it has", x.tokens(0, 1), 0);
        Check.due("one KNOW less, one TOKENS more", x.letters(), waiting);
    }

    private static void knowOfOwn() {
        TokenMesh x = new TokenMesh(2, 0, 1);
        x.issue(0, true, 0, 9);
        x.tick(1);
        Check.bring(x, Check.please(0, 2, 0));
        Check.bring(x, Check.owner(2, 0, 0, 3));
        int waiting = x.letters();
        Check.bring(x, Check.know(2, 0, 0));
        Check.due("knows", x.knows(0, 0), 8);
        Check.due("keeps all", x.tokens(0, 0), 27);
        Check.due("sends nothing", x.letters(), waiting - 1);
    }

    private static void overLetters() {
        TokenMesh x = new TokenMesh(2, 0, 1);
        x.issue(0, false, 1, 0);
        x.tick(1);
        Check.bring(x, Check.please(0, 2, 1));
        Check.bring(x, Check.know(2, 0, 1));
        Check.bring(x, Check.know(2, 1, 1));
        Check.bring(x, Check.owner(2, 0, 1, 1));
        Check.dueLetters("an OVER is sent", x, Check.read(0, 1, 1), Check.read(0, 2, 1), Check.over(0, 2));
        Check.bring(x, Check.read(0, 2, 1));
        Check.bring(x, Check.over(0, 2));
        Check.due("home knows of none", x.knows(2, 1), -1);
        Check.due("core 0 does not yet", x.knows(0, 1), 0);
        Check.dueLetters("all are told", x, Check.read(0, 1, 1), Check.know(2, 0, 1), Check.know(2, 1, 1));
        x.deliver(1);
        Check.due("core 0 knows of none", x.knows(0, 1), -1);
        Check.due("core 1 does not yet", x.knows(1, 1), 0);
        x.deliver(1);
        Check.due("core 1 knows of none", x.knows(1, 1), -1);
    }

    private static void overStartsTheNext() {
        TokenMesh x = new TokenMesh(2, 0, 1);
        x.issue(0, true, 0, 3);
        x.issue(1, true, 0, 4);
        x.tick(1);
        for (int i = 0; i < 4; i++) {
            x.deliver(0);
            if (i == 1) {
                // The home heard core 0; its tokens must not end the access before the PLEASE.
                Check.due("tokens wait last", x.letter(x.letters() - 1), Check.owner(2, 0, 0, 3));
            }
        }
        Check.bring(x, Check.please(0, 2, 0));
        Check.bring(x, Check.please(1, 2, 0));
        Check.bring(x, Check.owner(2, 0, 0, 3));
        Check.dueLetters("before the OVER", x, Check.know(2, 0, 0), Check.know(2, 1, 0), Check.over(0, 2));
        x.deliver(2);
        Check.dueLetters("KNOWs of the next took the places", x, Check.know(2, 0, 0), Check.know(2, 1, 0));
        x.deliver(0);
        Check.due("core 0 knows the next", x.knows(0, 0), 9);
        Check.bring(x, Check.owner(0, 1, 0, 3));
        Check.due("data", x.data(1, 0), 4);
        Check.due("result", x.result(1), 3);
    }

    /** The PLEASE of access 2 has made access 1 lapse; its OVER comes behind that. */
    private static void overTooLate() {
        TokenMesh x = new TokenMesh(2, 0, 1);
        x.issue(0, true, 0, 3);
        x.tick(1);
        Check.bring(x, Check.please(0, 2, 0));
        Check.bring(x, Check.owner(2, 0, 0, 3));
        x.issue(0, true, 1, 4);
        x.tick(1);
        Check.bring(x, Check.please(0, 2, 1));
        Check.due("access 2 is active", x.knows(2, 1), 8);
        int waiting = x.letters();
        Check.bring(x, Check.over(0, 2));
        Check.due("still", x.knows(2, 1), 8);
        Check.due("no KNOW is sent", x.letters(), waiting - 1);
    }

    private static void overOfOneInTheRow(int b) {
        TokenMesh x = new TokenMesh(3, 0, 1);
        readByOtherMeans(x, b);
        Check.due("row", x.row(b), 2);
        int waiting = x.letters();
        Check.bring(x, Check.over(1, 3));
        Check.due("it is out of the row", x.row(b), 1);
        Check.due("the active one stays", x.knows(3, b), 8);
        Check.due("no KNOW is sent", x.letters(), waiting - 1);
        Check.bring(x, Check.know(3, 1, b));
        Check.bring(x, Check.bare(1, 0, b, 1));
        Check.bring(x, Check.owner(3, 0, b, 3));
        Check.bring(x, Check.over(0, 3));
        Check.due("core 2 is next", x.knows(3, b), 8 + 2);
        Check.due("row", x.row(b), 0);
    }

    /** The OVER of access 2 has taken the place of that of access 1, whose request is active. */
    private static void overLapsesOlderActive() {
        TokenMesh x = new TokenMesh(2, 0, 1);
        x.issue(0, true, 0, 3);
        x.tick(1);
        Check.bring(x, Check.please(0, 2, 0));
        Check.bring(x, Check.owner(2, 0, 0, 3));
        x.issue(0, true, 1, 4);
        x.tick(1);
        Check.bring(x, Check.write(0, 2, 1));
        Check.bring(x, Check.owner(2, 0, 1, 3));
        Check.due("access 1 is active still", x.knows(2, 0), 8);
        Check.bring(x, Check.over(0, 2));
        Check.due("access 1 has lapsed too", x.knows(2, 0), -1);
        Check.bring(x, Check.please(0, 2, 1));
        Check.due("so has access 2 before its PLEASE", x.knows(2, 1), -1);
    }

    private static void overWithoutRequest() {
        TokenMesh x = new TokenMesh(2, 0, 1);
        x.issue(1, false, 1, 0);
        x.tick(1);
        Check.bring(x, Check.please(1, 2, 1));
        x.issue(0, true, 0, 3);
        x.tick(1);
        Check.bring(x, Check.write(0, 2, 0));
        Check.bring(x, Check.owner(2, 0, 0, 3));
        int waiting = x.letters();
        Check.bring(x, Check.over(0, 2));
        Check.due("the request of core 1 stays", x.knows(2, 1), 1);
        Check.due("block 0 has none", x.knows(2, 0), -1);
        Check.due("no KNOW is sent", x.letters(), waiting - 1);
    }

    /** Core 0 is served; core 1, in the row before core 2, has read with a token sent before that. */
    private static void readByOtherMeans(TokenMesh x, int b) {
        x.issue(0, true, b, 3);
        x.issue(1, false, b, 4);
        x.issue(2, true, b, 5);
        x.tick(1);
        Check.bring(x, Check.read(1, 3, b));
        Check.bring(x, Check.please(0, 3, b));
        Check.bring(x, Check.please(1, 3, b));
        Check.bring(x, Check.please(2, 3, b));
        Check.bring(x, Check.copy(3, 1, b, 1));
        Check.due("core 1 has read by other means", x.ended(1), 1);
    }

    private static void lapseInTheOtherBlock(int b) {
        TokenMesh x = new TokenMesh(3, 0, 1);
        readByOtherMeans(x, b);
        Check.due("row", x.row(b), 2);
        x.issue(1, true, 1 - b, 9);
        x.tick(1);
        Check.bring(x, Check.please(1, 3, 1 - b));
        Check.due("the row lost the lapsed one", x.row(b), 1);
        Check.due("the block is still of core 0", x.knows(3, b), 8);
        Check.due("the other block is of core 1", x.knows(3, 1 - b), 9);
    }

    /** Access 2 of core 1 ends at once, so that nothing is heard of it before the PLEASE of access 3. */
    private static void lapseOfMuchOlderInTheRow() {
        TokenMesh x = new TokenMesh(3, 0, 1);
        readByOtherMeans(x, 0);
        Check.due("access 2", x.issue(1, false, 0, 0), 1);
        x.issue(1, true, 0, 9);
        x.tick(1);
        Check.bring(x, Check.please(1, 3, 0));
        Check.due("core 2 and access 3 are in the row", x.row(0), 2);
        Check.bring(x, Check.know(3, 1, 0));
        Check.bring(x, Check.bare(1, 0, 0, 1));
        Check.bring(x, Check.owner(3, 0, 0, 3));
        Check.bring(x, Check.over(0, 3));
        Check.due("core 2 is next", x.knows(3, 0), 8 + 2);
        Check.due("row", x.row(0), 1);
    }

    private static void lapseOfMuchOlderActive() {
        TokenMesh x = new TokenMesh(2, 0, 1);
        x.issue(0, true, 1, 3);
        x.tick(1);
        Check.bring(x, Check.please(0, 2, 1));
        Check.bring(x, Check.owner(2, 0, 1, 3));
        Check.due("access 2", x.issue(0, false, 1, 0), 1);
        x.issue(0, true, 0, 9);
        x.tick(1);
        Check.due("access 1 is active still", x.knows(2, 1), 8);
        Check.bring(x, Check.please(0, 2, 0));
        Check.due("access 1 has lapsed", x.knows(2, 1), -1);
        Check.due("access 3 is active", x.knows(2, 0), 8);
    }
}
