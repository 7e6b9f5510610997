/** Promise 3. */
public final class TickTest {
    public static void main(String[] args) {
        Check.test("the time then", TickTest::timeThen);
        Check.test("-1 when n is less than 1", () -> dueRefused(Integer.MIN_VALUE, -50, -1, 0));
        Check.test("-1 when n is more than 50", () -> dueRefused(51, 52, 100, 307, Integer.MAX_VALUE));
        Check.test("1 is the least n", () -> dueTaken(1));
        Check.test("50 is the greatest n", () -> dueTaken(50));
        Check.test("repeated REPEATS times, then persistent", TickTest::repeatsThenPersists);
        Check.test("with REPEATS 0 persistent at once", TickTest::noRepeats);
        Check.test("with REPEATS 4 repeated four times", TickTest::fourRepeats);
        Check.test("to be repeated now: neither before nor after", TickTest::neitherBeforeNorAfter);
        Check.test("units one after the other", TickTest::unitsGoOneByOne);
        Check.test("all 50 units count", TickTest::fiftyUnits);
        Check.test("for all cores in the order of their numbers", TickTest::coresInOrder);
        Check.test("a persistent access asks no more", TickTest::persistentAsksNoMore);
        Check.test("an ended access asks no more", TickTest::endedAsksNoMore);
        Check.test("no access under way: nothing but the time", TickTest::nothingUnderWay);
        Check.test("the next access begins anew", TickTest::nextAccessBeginsAnew);
        Check.finish();
    }

    private static void timeThen() {
        TokenMesh x = new TokenMesh(2, 1, 1);
        Check.due("tick(1)", x.tick(1), 1);
        Check.due("tick(50)", x.tick(50), 51);
        Check.due("tick(49)", x.tick(49), 100);
    }

    private static void dueRefused(int... bad) {
        TokenMesh x = new TokenMesh(2, 1, 1);
        x.issue(0, false, 0, 0);
        for (int n : bad) {
            Check.due("tick(" + n + ")", x.tick(n), -1);
        }
        Check.due("nothing was repeated", x.state(0), 1);
        Check.due("no time went by", x.tick(1), 1);
    }

    private static void dueTaken(int n) {
        TokenMesh x = new TokenMesh(2, 4, 1);
        x.issue(0, false, 0, 0);
        Check.due("tick(" + n + ")", x.tick(n), n);
        Check.due("state", x.state(0), n == 1 ? 2 : 13);
        Check.due("tick(" + n + ") once more", x.tick(n), 2 * n);
    }

    private static void repeatsThenPersists() {
        TokenMesh x = new TokenMesh(3, 2, 3);
        x.issue(1, true, 1, 8);
        x.deliver(0);
        x.tick(2);
        Check.dueLetters("before", x, Check.write(1, 2, 1), Check.write(1, 3, 1));
        x.tick(1);
        Check.due("once", x.state(1), 2);
        Check.dueLetters("asked again", x, Check.write(1, 0, 1), Check.write(1, 2, 1), Check.write(1, 3, 1));
        x.tick(2);
        Check.due("still once", x.state(1), 2);
        x.tick(1);
        Check.due("twice", x.state(1), 3);
        x.tick(2);
        Check.due("still twice", x.state(1), 3);
        x.tick(1);
        Check.due("persistent", x.state(1), 11);
        Check.dueLetters("pleads", x, Check.write(1, 0, 1), Check.write(1, 2, 1), Check.write(1, 3, 1),
                Check.please(1, 3, 1));
    }

    private static void noRepeats() {
        TokenMesh x = new TokenMesh(2, 0, 1);
        x.issue(0, false, 1, 8);
        x.deliver(0);
        x.tick(1);
        Check.due("persistent", x.state(0), 9);
        Check.dueLetters("asks not again, but pleads", x, Check.read(0, 2, 1), Check.please(0, 2, 1));
    }

    private static void fourRepeats() {
        TokenMesh x = new TokenMesh(2, 4, 1);
        x.issue(1, false, 0, 8);
        for (int k = 1; k <= 4; k++) {
            x.deliver(0);
            Check.due("tick", x.tick(1), k);
            Check.due("state", x.state(1), 1 + k);
            Check.dueLetters("asked again", x, Check.read(1, 0, 0), Check.read(1, 2, 0));
        }
        x.tick(1);
        Check.due("persistent", x.state(1), 13);
        Check.dueLetters("pleads", x, Check.read(1, 0, 0), Check.read(1, 2, 0), Check.please(1, 2, 0));
    }

    private static void neitherBeforeNorAfter() {
        TokenMesh x = new TokenMesh(2, 1, 20);
        x.issue(1, false, 0, 8);
        x.tick(19);
        Check.due("a unit before", x.state(1), 1);
        x.tick(1);
        Check.due("now", x.state(1), 2);
        x.tick(19);
        Check.due("a unit before", x.state(1), 2);
        x.tick(1);
        Check.due("now", x.state(1), 10);
    }

    private static void unitsGoOneByOne() {
        TokenMesh x = new TokenMesh(2, 1, 2);
        x.issue(1, true, 0, 8);
        x.tick(1);
        x.issue(0, false, 0, 8);
        Check.due("tick", x.tick(4), 5);
        // At 2 core 1 asks, at 3 core 0 asks, at 4 core 1 pleads, at 5 core 0 pleads.
        Check.dueLetters("as in four calls", x, Check.write(1, 0, 0), Check.write(1, 2, 0),
                Check.read(0, 1, 0), Check.read(0, 2, 0), Check.please(1, 2, 0), Check.please(0, 2, 0));
    }

    private static void fiftyUnits() {
        TokenMesh x = new TokenMesh(2, 1, 20);
        x.tick(10);
        x.issue(0, false, 0, 8);
        Check.due("tick", x.tick(39), 49);
        Check.due("a unit before", x.state(0), 2);

        TokenMesh y = new TokenMesh(2, 1, 20);
        y.issue(0, false, 0, 8);
        y.tick(9);
        y.deliver(0);
        Check.due("the 31st of these units is the 40th", y.tick(31), 40);
        Check.due("persistent", y.state(0), 10);

        TokenMesh z = new TokenMesh(2, 4, 10);
        z.issue(0, false, 0, 8);
        Check.due("tick", z.tick(50), 50);
        Check.due("persistent in the very last unit", z.state(0), 13);
    }

    private static void coresInOrder() {
        TokenMesh x = new TokenMesh(2, 1, 1);
        x.issue(1, true, 0, 8);
        x.issue(0, false, 0, 8);
        Check.due("tick", x.tick(2), 2);
        Check.dueLetters("core 0 first, in each unit", x, Check.read(0, 1, 0), Check.read(0, 2, 0),
                Check.write(1, 0, 0), Check.write(1, 2, 0), Check.please(0, 2, 0), Check.please(1, 2, 0));
    }

    private static void persistentAsksNoMore() {
        TokenMesh x = new TokenMesh(2, 0, 1);
        x.issue(0, false, 0, 0);
        x.tick(1);
        Check.bring(x, Check.read(0, 1, 0));
        Check.bring(x, Check.please(0, 2, 0));
        int waiting = x.letters();
        x.tick(50);
        Check.due("letters", x.letters(), waiting);
        Check.due("state", x.state(0), 9);
    }

    private static void endedAsksNoMore() {
        TokenMesh x = new TokenMesh(2, 4, 2);
        Check.writeFromHome(x, 2, 0, 0, 4);
        int waiting = x.letters();
        x.tick(50);
        Check.due("letters", x.letters(), waiting);
        Check.due("state", x.state(0), 0);
    }

    private static void nothingUnderWay() {
        TokenMesh x = new TokenMesh(4, 0, 1);
        Check.due("tick", x.tick(50), 50);
        Check.dueLetters("none", x);
        for (int c = 0; c < 4; c++) {
            Check.due("state", x.state(c), 0);
        }
    }

    private static void nextAccessBeginsAnew() {
        TokenMesh x = new TokenMesh(2, 1, 1);
        x.issue(0, true, 0, 4);
        x.tick(2);
        Check.due("persistent", x.state(0), 10);
        Check.bring(x, Check.write(0, 2, 0));
        Check.bring(x, Check.owner(2, 0, 0, 3));
        Check.due("ended", x.state(0), 0);
        Check.due("issue", x.issue(0, true, 1, 4), 0);
        Check.due("new", x.state(0), 1);
        x.tick(1);
        Check.due("repeated once", x.state(0), 2);
        x.tick(1);
        Check.due("persistent", x.state(0), 10);
    }
}
