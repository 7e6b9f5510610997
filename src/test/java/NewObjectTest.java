/** Promise 1. */
public final class NewObjectTest {
    public static void main(String[] args) {
        cores();
        repeats();
        patience();
        firstState();
        Check.finish();
    }

    private static void cores() {
        int[] given = {Integer.MIN_VALUE, -1, 0, 1, 2, 3, 4, 5, Integer.MAX_VALUE};
        int[] due = {2, 2, 2, 2, 2, 3, 4, 4, 4};
        for (int i = 0; i < given.length; i++) {
            TokenMesh x = new TokenMesh(given[i], 0, 1);
            String of = "of " + given[i] + " cores, ";
            Check.due(of + "last core", x.state(due[i] - 1), 0);
            Check.due(of + "behind the last core", x.state(due[i]), -1);
            for (int b = 0; b < 2; b++) {
                Check.due(of + "home", x.tokens(due[i], b), due[i] + 1 + 8 + 16);
                Check.due(of + "behind the home", x.tokens(due[i] + 1, b), -1);
            }
        }
    }

    private static void repeats() {
        int[] given = {Integer.MIN_VALUE, -1, 0, 1, 2, 3, 4, 5, Integer.MAX_VALUE};
        int[] due = {0, 0, 0, 1, 2, 3, 4, 4, 4};
        for (int i = 0; i < given.length; i++) {
            TokenMesh x = new TokenMesh(2, given[i], 1);
            x.issue(0, false, 0, 0);
            for (int k = 0; k < due[i]; k++) {
                Check.due("repeats " + given[i] + ", before", x.state(0), 1 + k);
                x.tick(1);
            }
            Check.due("repeats " + given[i] + ", all", x.state(0), 1 + due[i]);
            x.tick(1);
            Check.due("repeats " + given[i] + ", persistent", x.state(0), 9 + due[i]);
        }
    }

    private static void patience() {
        int[] given = {Integer.MIN_VALUE, -1, 0, 1, 2, 19, 20, 21, Integer.MAX_VALUE};
        int[] due = {1, 1, 1, 1, 2, 19, 20, 20, 20};
        for (int i = 0; i < given.length; i++) {
            TokenMesh x = new TokenMesh(2, 0, given[i]);
            x.issue(0, false, 0, 0);
            for (int k = 1; k < due[i]; k++) {
                x.tick(1);
                Check.due("patience " + given[i] + ", at " + k, x.state(0), 1);
            }
            x.tick(1);
            Check.due("patience " + given[i] + ", at its end", x.state(0), 9);
        }
    }

    private static void firstState() {
        TokenMesh x = new TokenMesh(3, 2, 2);
        Check.dueLetters("new", x);
        for (int b = 0; b < 2; b++) {
            for (int c = 0; c < 3; c++) {
                Check.due("new, tokens", x.tokens(c, b), 0);
                Check.due("new, data", x.data(c, b), 0);
            }
            for (int node = 0; node <= 3; node++) {
                Check.due("new, knows", x.knows(node, b), -1);
            }
            Check.due("new, tokens of the home", x.tokens(3, b), 28);
            Check.due("new, data of the home", x.data(3, b), 0);
            Check.due("new, row", x.row(b), 0);
            Check.due("new, memory", x.memory(b), 0);
        }
        for (int c = 0; c < 3; c++) {
            Check.due("new, ended", x.ended(c), 0);
            Check.due("new, result", x.result(c), 0);
        }
        Check.due("new, time", x.tick(1), 1);
    }
}
