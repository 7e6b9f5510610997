/** Promise 1. */
public final class NewObjectTest {
    private static final int MIN = Integer.MIN_VALUE;
    private static final int MAX = Integer.MAX_VALUE;

    public static void main(String[] args) {
        Check.test("N is cores", () -> dueCores(new int[] {2, 3, 4}, 2, 3, 4));
        Check.test("N is 2 when cores is less", () -> dueCores(new int[] {MIN, -3, -1, 0, 1}, 2, 2, 2, 2, 2));
        Check.test("N is 4 when cores is more", () -> dueCores(new int[] {5, 6, 260, MAX}, 4, 4, 4, 4));
        Check.test("REPEATS is repeats", () -> dueRepeats(new int[] {0, 1, 2, 3, 4}, 0, 1, 2, 3, 4));
        Check.test("REPEATS is 0 when repeats is less", () -> dueRepeats(new int[] {MIN, -2, -1}, 0, 0, 0));
        Check.test("REPEATS is 4 when repeats is more", () -> dueRepeats(new int[] {5, 6, 260, MAX}, 4, 4, 4, 4));
        Check.test("PATIENCE is patience", () -> duePatience(new int[] {1, 2, 10, 19, 20}, 1, 2, 10, 19, 20));
        Check.test("PATIENCE is 1 when patience is less", () -> duePatience(new int[] {MIN, -2, -1, 0}, 1, 1, 1, 1));
        Check.test("PATIENCE is 20 when patience is more", () -> duePatience(new int[] {21, 22, 276, MAX}, 20, 20, 20, 20));
        Check.test("all three too small", () -> firstState(new TokenMesh(MIN, MIN, MIN), 2));
        Check.test("all three too large", () -> firstState(new TokenMesh(MAX, MAX, MAX), 4));
        Check.test("At first the home has all tokens and valid data 0, 2 cores", () -> firstState(new TokenMesh(2, 2, 2), 2));
        Check.test("At first the home has all tokens and valid data 0, 3 cores", () -> firstState(new TokenMesh(3, 2, 2), 3));
        Check.test("At first the home has all tokens and valid data 0, 4 cores", () -> firstState(new TokenMesh(4, 2, 2), 4));
        Check.test("the time is 0 at first", NewObjectTest::firstTime);
        Check.test("objects share nothing", NewObjectTest::objectsShareNothing);
        Check.finish();
    }

    private static void dueCores(int[] given, int... due) {
        for (int i = 0; i < given.length; i++) {
            TokenMesh x = new TokenMesh(given[i], 0, 1);
            String of = "of " + given[i] + " cores, ";
            Check.due(of + "last core", x.state(due[i] - 1), 0);
            Check.due(of + "behind the last core", x.state(due[i]), -1);
            for (int b = 0; b < 2; b++) {
                Check.due(of + "home", x.tokens(due[i], b), due[i] + 1 + 8 + 16);
                Check.due(of + "behind the home", x.tokens(due[i] + 1, b), -1);
            }
            Check.due(of + "issue", x.issue(0, true, 0, 1), 0);
            Check.due(of + "all others are asked", x.letters(), due[i]);
        }
    }

    private static void dueRepeats(int[] given, int... due) {
        for (int i = 0; i < given.length; i++) {
            TokenMesh x = new TokenMesh(2, given[i], 1);
            x.issue(0, false, 0, 0);
            for (int k = 0; k < due[i]; k++) {
                Check.due("repeats " + given[i] + ", before", x.state(0), 1 + k);
                x.tick(1);
            }
            Check.due("repeats " + given[i] + ", all", x.state(0), 1 + due[i]);
            x.tick(1);
            Check.due("repeats " + given[i] + ", persistent", x.state(0), 9 + due[i]);
        }
    }

    private static void duePatience(int[] given, int... due) {
        for (int i = 0; i < given.length; i++) {
            TokenMesh x = new TokenMesh(2, 0, given[i]);
            x.issue(0, false, 0, 0);
            for (int k = 1; k < due[i]; k++) {
                x.tick(1);
                Check.due("patience " + given[i] + ", at " + k, x.state(0), 1);
            }
            x.tick(1);
            Check.due("patience " + given[i] + ", at its end", x.state(0), 9);
        }
    }

    private static void firstState(TokenMesh x, int home) {
        Check.dueLetters("new", x);
        for (int b = 0; b < 2; b++) {
            for (int c = 0; c < home; c++) {
                Check.due("tokens", x.tokens(c, b), 0);
                Check.due("data", x.data(c, b), 0);
                Check.due("evict", x.evict(c, b), false);
            }
            for (int node = 0; node <= home; node++) {
                Check.due("knows", x.knows(node, b), -1);
            }
            Check.due("tokens of the home", x.tokens(home, b), home + 1 + 8 + 16);
            Check.due("data of the home", x.data(home, b), 0);
            Check.due("row", x.row(b), 0);
            Check.due("memory", x.memory(b), 0);
        }
        for (int c = 0; c < home; c++) {
            Check.due("state", x.state(c), 0);
            Check.due("ended", x.ended(c), 0);
            Check.due("result", x.result(c), 0);
        }
    }

    private static void firstTime() {
        Check.due("tick", new TokenMesh(2, 0, 1).tick(1), 1);
        Check.due("tick", new TokenMesh(4, 4, 20).tick(50), 50);
    }

    private static void objectsShareNothing() {
        TokenMesh x = new TokenMesh(2, 0, 1);
        TokenMesh y = new TokenMesh(2, 0, 1);
        x.tick(7);
        Check.writeFromHome(x, 2, 0, 0, 5);
        x.issue(1, true, 0, 6);
        x.tick(1);
        Check.bring(x, Check.please(1, 2, 0));
        firstState(y, 2);
        Check.due("time of the other", y.tick(1), 1);
        firstState(new TokenMesh(2, 0, 1), 2);
    }
}
