/** The sections 'What it is' and 'Terms', as far as no single kind of letter is meant (DeliverTest). */
public final class TermsTest {
    public static void main(String[] args) {
        Check.test("at most 512 calls: the time", TermsTest::timeUpToTheLastCall);
        Check.test("at most 512 calls: accesses and their numbers", TermsTest::numbersUpToTheLastCall);
        Check.test("at most 512 calls: serials", TermsTest::serialsUpToTheLastCall);

        Check.test("without tokens it is not valid: all were asked for", TermsTest::notValidAfterWrite);
        Check.test("without tokens it is not valid: the last was read", TermsTest::notValidAfterRead);
        Check.test("without tokens it is not valid: it gave way", TermsTest::notValidAfterGivingWay);
        Check.test("gets tokens without data: valid stays valid", TermsTest::getsBareWhenValid);
        Check.test("gets tokens without data: not valid stays so", TermsTest::getsBareWhenNotValid);
        Check.test("gets tokens with data: that is its data", TermsTest::getsData);
        Check.test("data goes just when the owner does or it is said so", TermsTest::dataGoesOrNot);

        Check.test("gives way for writing: it has none", () -> givesWay(true, 0));
        Check.test("gives way for writing: it has one, not the owner", () -> givesWay(true, 1));
        Check.test("gives way for writing: it has the owner and more", () -> givesWay(true, 2));
        Check.test("gives way for reading: it has none", () -> givesWay(false, 0));
        Check.test("gives way for reading: it has one, not the owner", () -> givesWay(false, 1));
        Check.test("gives way for reading: it has the owner and more", () -> givesWay(false, 2));
        Check.test("gives way for reading: it has the owner alone", TermsTest::givesTheOwnerAlone);

        Check.test("an OVER if the access was persistent", TermsTest::overIfPersistent);
        Check.test("no OVER if it was repeated as often as can be", TermsTest::noOverIfRepeated);
        Check.test("no OVER if it ended at once", TermsTest::noOverIfEndedAtOnce);
        Check.test("numbers are for each core", TermsTest::numbersOfEachCore);
        Check.test("becomes active: the row is empty, the home has all", TermsTest::activeFromAnEmptyRow);
        Check.test("becomes active: the home has nothing to give", TermsTest::activeWithoutTokens);
        Check.test("a KNOW of none when the row is empty", TermsTest::noneIsActive);
        Check.finish();
    }

    private static void timeUpToTheLastCall() {
        TokenMesh x = new TokenMesh(4, 4, 20);
        for (int call = 1; call <= 512; call++) {
            Check.due("call " + call, x.tick(50), 50 * call);
        }
    }

    /** About 440 accesses of core 0 end at once, then one is persistent. */
    private static void numbersUpToTheLastCall() {
        TokenMesh x = new TokenMesh(2, 0, 1);
        Check.writeFromHome(x, 2, 0, 0, 0);
        Check.due("tick", x.tick(1), 1);
        for (int k = 1; k <= 440; k++) {
            Check.due("issue " + k, x.issue(0, true, 0, k), 1);
        }
        Check.due("ended", x.ended(0), 441);
        Check.due("result", x.result(0), 439);
        Check.due("issue", x.issue(0, true, 1, 5), 0);
        x.tick(1);
        Check.bring(x, Check.please(0, 2, 1));
        Check.due("active", x.knows(2, 1), 8);
        Check.bring(x, Check.owner(2, 0, 1, 3));
        Check.bring(x, Check.over(0, 2));
        Check.due("over", x.knows(2, 1), -1);
        Check.due("ended", x.ended(0), 442);
    }

    /** Two cores write in turn, 62 times, each time by way of the arbiter and with both told of it. */
    private static void serialsUpToTheLastCall() {
        TokenMesh x = new TokenMesh(2, 0, 1);
        for (int k = 0; k < 62; k++) {
            int c = k % 2;
            int other = 1 - c;
            Check.due("issue", x.issue(c, true, 0, k), 0);
            Check.due("tick", x.tick(1), k + 1);
            // WRITEs are never delivered: those of each core take the places of its older ones.
            int writes = k == 0 ? 2 : 4;
            Check.due("PLEASE", x.deliver(writes), 4);
            Check.due("KNOW to the other core", x.deliver(writes + other), 5);
            Check.due("TOKENS", x.deliver(writes + 1), 3);
            Check.due("OVER", x.deliver(writes + 1), 6);
            Check.due("KNOW of none", x.deliver(writes), 5);
            Check.due("KNOW of none", x.deliver(writes), 5);
        }
        Check.due("ended", x.ended(0), 31);
        Check.due("ended", x.ended(1), 31);
        Check.due("result", x.result(1), 60);
        Check.due("memory", x.memory(0), 61);
        for (int node = 0; node < 3; node++) {
            Check.due("knows", x.knows(node, 0), -1);
        }
        Check.due("letters", x.letters(), 4);
    }

    private static void notValidAfterWrite() {
        TokenMesh x = new TokenMesh(2, 4, 9);
        Check.writeFromHome(x, 2, 0, 0, 5);
        Check.due("the home gave all", x.tokens(2, 0), 0);
        x.issue(1, true, 0, 6);
        Check.bring(x, Check.write(1, 0, 0));
        Check.due("core 0 gave all", x.tokens(0, 0), 0);
        Check.due("data", x.data(0, 0), 0);
        Check.due("it can't read any more", x.issue(0, false, 0, 0), 0);
    }

    private static void notValidAfterRead() {
        TokenMesh x = new TokenMesh(2, 4, 1);
        Check.writeFromHome(x, 2, 0, 0, 5);
        x.issue(1, false, 0, 0);
        for (int k = 0; k < 3; k++) {
            Check.due("valid", x.data(0, 0), 5);
            Check.bring(x, Check.read(1, 0, 0));
            x.tick(1);
        }
        Check.due("gave one by one, the owner last", x.tokens(0, 0), 0);
        Check.due("data", x.data(0, 0), 0);
        Check.due("memory", x.memory(0), 5);
        Check.bring(x, Check.owner(0, 1, 0, 1));
        Check.bring(x, Check.copy(0, 1, 0, 1));
        Check.bring(x, Check.copy(0, 1, 0, 1));
        Check.due("all are at core 1", x.tokens(1, 0), 27);
    }

    private static void notValidAfterGivingWay() {
        TokenMesh x = new TokenMesh(2, 0, 1);
        Check.writeFromHome(x, 2, 0, 0, 5);
        x.issue(1, true, 0, 6);
        x.tick(1);
        Check.bring(x, Check.please(1, 2, 0));
        Check.due("valid", x.tokens(0, 0), 27);
        Check.bring(x, Check.know(2, 0, 0));
        Check.due("not valid", x.tokens(0, 0), 0);
        Check.due("data", x.data(0, 0), 0);
    }

    private static void getsBareWhenValid() {
        TokenMesh x = new TokenMesh(3, 4, 9);
        Check.writeFromHome(x, 3, 2, 0, 5);
        Check.readFrom(x, 2, 0, 0);
        Check.readFrom(x, 2, 1, 0);
        x.issue(0, true, 0, 6);
        Check.bring(x, Check.write(0, 1, 0));
        Check.bring(x, Check.bare(1, 0, 0, 1));
        Check.due("two, valid", x.tokens(0, 0), 2 + 16);
        Check.due("data", x.data(0, 0), 5);
    }

    private static void getsBareWhenNotValid() {
        TokenMesh x = new TokenMesh(2, 4, 9);
        Check.writeFromHome(x, 2, 0, 0, 5);
        Check.readFrom(x, 0, 1, 0);
        x.evict(1, 0);
        Check.bring(x, Check.bare(1, 2, 0, 1));
        Check.due("one, not valid", x.tokens(2, 0), 1);
        Check.due("data", x.data(2, 0), 0);
        Check.readFrom(x, 0, 1, 0);
        x.evict(1, 0);
        Check.bring(x, Check.bare(1, 2, 0, 1));
        Check.due("two, not valid", x.tokens(2, 0), 2);
    }

    private static void getsData() {
        TokenMesh x = new TokenMesh(2, 4, 9);
        Check.writeFromHome(x, 2, 0, 0, 5);
        Check.readFrom(x, 0, 1, 0);
        x.evict(1, 0);
        Check.bring(x, Check.bare(1, 2, 0, 1));
        Check.due("not valid", x.tokens(2, 0), 1);
        x.evict(0, 0);
        Check.bring(x, Check.owner(0, 2, 0, 2));
        Check.due("valid", x.tokens(2, 0), 3 + 8 + 16);
        Check.due("data", x.data(2, 0), 5);
    }

    private static void dataGoesOrNot() {
        TokenMesh x = new TokenMesh(2, 4, 9);
        Check.writeFromHome(x, 2, 0, 0, 5);
        x.issue(1, false, 0, 0);
        Check.bring(x, Check.read(1, 0, 0));
        Check.due("said so", x.letter(x.letters() - 1), Check.copy(0, 1, 0, 1));
        x.deliver(x.letters() - 1);
        x.issue(0, true, 0, 6);
        Check.bring(x, Check.write(0, 1, 0));
        Check.due("neither", x.letter(x.letters() - 1), Check.bare(1, 0, 0, 1));
        x.deliver(x.letters() - 1);
        Check.due("ended", x.ended(0), 2);
        x.evict(0, 0);
        Check.due("the owner", x.letter(x.letters() - 1), Check.owner(0, 2, 0, 3));
    }

    /**
     * Core giver is told of the request of core 3: core 0 has none of the tokens, core 1 one of
     * them, and core 2 the owner and three more.
     */
    private static void givesWay(boolean writing, int giver) {
        TokenMesh x = new TokenMesh(4, 0, 1);
        Check.writeFromHome(x, 4, 2, 1, 5);
        Check.readFrom(x, 2, 1, 1);
        x.issue(3, writing, 1, 6);
        x.tick(1);
        Check.bring(x, Check.please(3, 4, 1));
        int waiting = x.letters();
        Check.bring(x, Check.know(4, giver, 1));
        Check.due("told", x.knows(giver, 1), writing ? 11 : 3);
        boolean gives = giver == 2 || writing && giver == 1;
        Check.due("letters", x.letters(), gives ? waiting : waiting - 1);
        int left = giver == 0 || writing ? 0 : giver == 1 ? 1 + 16 : 3 + 16;
        Check.due("tokens", x.tokens(giver, 1), left);
        if (gives) {
            int due = giver == 1 ? Check.bare(1, 3, 1, 1) : Check.owner(2, 3, 1, writing ? 4 : 1);
            Check.due("TOKENS", x.letter(waiting - 1), due);
        }
    }

    private static void givesTheOwnerAlone() {
        TokenMesh x = new TokenMesh(2, 4, 1);
        Check.writeFromHome(x, 2, 0, 0, 5);
        x.issue(1, false, 0, 0);
        Check.bring(x, Check.read(1, 0, 0));
        x.tick(1);
        Check.bring(x, Check.read(1, 0, 0));
        x.tick(4);
        Check.due("the owner is left", x.tokens(0, 0), 1 + 8 + 16);
        Check.bring(x, Check.please(1, 2, 0));
        Check.bring(x, Check.know(2, 0, 0));
        Check.due("nothing is left", x.tokens(0, 0), 0);
        Check.due("data", x.data(0, 0), 0);
        Check.due("TOKENS", x.letter(x.letters() - 1), Check.owner(0, 1, 0, 1));
    }

    private static void overIfPersistent() {
        TokenMesh x = new TokenMesh(2, 0, 1);
        x.issue(0, false, 0, 0);
        Check.bring(x, Check.read(0, 2, 0));
        x.tick(1);
        Check.due("persistent", x.state(0), 9);
        Check.bring(x, Check.copy(2, 0, 0, 1));
        Check.due("OVER", x.letter(x.letters() - 1), Check.over(0, 2));
    }

    private static void noOverIfRepeated() {
        TokenMesh x = new TokenMesh(2, 1, 1);
        x.issue(0, false, 0, 0);
        Check.bring(x, Check.read(0, 2, 0));
        x.tick(1);
        Check.due("repeated", x.state(0), 2);
        Check.bring(x, Check.copy(2, 0, 0, 1));
        Check.due("ended", x.state(0), 0);
        Check.dueLetters("no OVER", x, Check.read(0, 1, 0), Check.read(0, 2, 0));
    }

    /** The access before was persistent; its OVER has been delivered. */
    private static void noOverIfEndedAtOnce() {
        TokenMesh x = new TokenMesh(2, 0, 1);
        x.issue(0, true, 0, 0);
        x.tick(1);
        Check.bring(x, Check.write(0, 2, 0));
        Check.bring(x, Check.owner(2, 0, 0, 3));
        Check.bring(x, Check.over(0, 2));
        int waiting = x.letters();
        Check.due("read", x.issue(0, false, 0, 0), 1);
        Check.due("write", x.issue(0, true, 0, 0), 1);
        Check.due("no OVER", x.letters(), waiting);
    }

    private static void numbersOfEachCore() {
        TokenMesh x = new TokenMesh(2, 0, 1);
        x.issue(0, true, 0, 0);
        x.tick(1);
        Check.bring(x, Check.write(0, 2, 0));
        Check.bring(x, Check.owner(2, 0, 0, 3));
        Check.bring(x, Check.over(0, 2));
        x.issue(1, true, 0, 0);
        x.tick(1);
        Check.bring(x, Check.please(1, 2, 0));
        Check.due("number 1 of core 1 has not lapsed", x.knows(2, 0), 9);
    }

    private static void activeFromAnEmptyRow() {
        TokenMesh x = new TokenMesh(3, 0, 1);
        x.issue(1, true, 0, 0);
        x.tick(1);
        Check.bring(x, Check.please(1, 3, 0));
        Check.due("row", x.row(0), 0);
        Check.due("the home knows", x.knows(3, 0), 9);
        Check.dueLetters("to all cores in order, then the tokens", x,
                Check.write(1, 0, 0), Check.write(1, 2, 0), Check.write(1, 3, 0),
                Check.know(3, 0, 0), Check.know(3, 1, 0), Check.know(3, 2, 0), Check.owner(3, 1, 0, 4));
    }

    private static void activeWithoutTokens() {
        TokenMesh x = new TokenMesh(2, 0, 1);
        Check.writeFromHome(x, 2, 0, 0, 5);
        x.issue(1, true, 0, 0);
        x.tick(1);
        Check.bring(x, Check.please(1, 2, 0));
        Check.dueLetters("no TOKENS", x, Check.write(0, 1, 0), Check.write(1, 0, 0), Check.write(1, 2, 0),
                Check.know(2, 0, 0), Check.know(2, 1, 0));
    }

    private static void noneIsActive() {
        TokenMesh x = new TokenMesh(3, 0, 1);
        x.issue(1, false, 1, 0);
        x.tick(1);
        Check.bring(x, Check.please(1, 3, 1));
        for (int c = 0; c < 3; c++) {
            Check.bring(x, Check.know(3, c, 1));
        }
        Check.bring(x, Check.owner(3, 1, 1, 1));
        Check.bring(x, Check.over(1, 3));
        Check.due("the home knows of none", x.knows(3, 1), -1);
        Check.dueLetters("all cores are told, and no tokens go", x,
                Check.read(1, 0, 1), Check.read(1, 2, 1), Check.read(1, 3, 1),
                Check.know(3, 0, 1), Check.know(3, 1, 1), Check.know(3, 2, 1));
    }
}
