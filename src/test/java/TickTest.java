/** Promise 3. */
public final class TickTest {
    public static void main(String[] args) {
        timeAndRefusals();
        repeatsThenPersists();
        unitsGoOneByOne();
        persistentAsksNoMore();
        endedAsksNoMore();
        nextAccessBeginsAnew();
        Check.finish();
    }

    private static void timeAndRefusals() {
        TokenMesh x = new TokenMesh(2, 1, 1);
        x.issue(0, false, 0, 0);
        int[] bad = {Integer.MIN_VALUE, -1, 0, 51, Integer.MAX_VALUE};
        for (int n : bad) {
            Check.due("tick(" + n + ")", x.tick(n), -1);
        }
        Check.due("nothing was done", x.state(0), 1);
        Check.due("tick(1)", x.tick(1), 1);
        Check.due("tick(50)", x.tick(50), 51);
        Check.due("tick(49)", x.tick(49), 100);
    }

    private static void repeatsThenPersists() {
        TokenMesh x = new TokenMesh(3, 2, 3);
        x.issue(1, true, 1, 8);
        x.deliver(0);
        x.tick(2);
        Check.dueLetters("before", x, Check.write(1, 2, 1), Check.write(1, 3, 1));
        x.tick(1);
        Check.due("once", x.state(1), 2);
        Check.dueLetters("asked again", x, Check.write(1, 0, 1), Check.write(1, 2, 1), Check.write(1, 3, 1));
        x.tick(2);
        Check.due("still once", x.state(1), 2);
        x.tick(1);
        Check.due("twice", x.state(1), 3);
        x.tick(2);
        Check.due("still twice", x.state(1), 3);
        x.tick(1);
        Check.due("persistent", x.state(1), 11);
        Check.dueLetters("pleads", x, Check.write(1, 0, 1), Check.write(1, 2, 1), Check.write(1, 3, 1),
                Check.please(1, 3, 1));
    }

    private static void unitsGoOneByOne() {
        TokenMesh x = new TokenMesh(2, 1, 1);
        x.issue(1, true, 0, 8);
        x.issue(0, false, 0, 8);
        Check.due("tick", x.tick(2), 2);
        Check.dueLetters("core 0 first, in each unit", x, Check.read(0, 1, 0), Check.read(0, 2, 0),
                Check.write(1, 0, 0), Check.write(1, 2, 0), Check.please(0, 2, 0), Check.please(1, 2, 0));
    }

    private static void persistentAsksNoMore() {
        TokenMesh x = new TokenMesh(2, 0, 1);
        x.issue(0, false, 0, 0);
        x.tick(1);
        Check.bring(x, Check.read(0, 1, 0));
        Check.bring(x, Check.please(0, 2, 0));
        int waiting = x.letters();
        x.tick(50);
        Check.due("letters", x.letters(), waiting);
        Check.due("state", x.state(0), 9);
    }

    private static void endedAsksNoMore() {
        TokenMesh x = new TokenMesh(2, 4, 2);
        Check.writeFromHome(x, 2, 0, 0, 4);
        int waiting = x.letters();
        x.tick(50);
        Check.due("letters", x.letters(), waiting);
        Check.due("state", x.state(0), 0);
    }

    private static void nextAccessBeginsAnew() {
        TokenMesh x = new TokenMesh(2, 1, 1);
        x.issue(0, true, 0, 4);
        x.tick(2);
        Check.due("persistent", x.state(0), 10);
        Check.bring(x, Check.write(0, 2, 0));
        Check.bring(x, Check.owner(2, 0, 0, 3));
        Check.due("ended", x.state(0), 0);
        Check.due("issue", x.issue(0, true, 1, 4), 0);
        Check.due("new", x.state(0), 1);
        x.tick(1);
        Check.due("repeated once", x.state(0), 2);
        x.tick(1);
        Check.due("persistent", x.state(0), 10);
    }
}
