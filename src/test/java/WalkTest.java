import java.util.Random;

/**
 * Long runs of calls, the same ones each time: after every call the whole object is compared with
 * the Model, and what must hold of tokens and data in any run is looked at.
 */
public final class WalkTest {
    private static final int RUNS = 1500;
    private static final int CALLS = 512;

    private static int ends;
    private static int persistentEnds;
    private static int longestRow;
    private static int mostLetters;

    private final Random random;
    private final TokenMesh x;
    private final Model m;
    private final int deliveries;
    private final int delivering;

    private WalkTest(int seed) {
        random = new Random(seed);
        int cores = random.nextInt(5) + 1;
        int repeats = random.nextInt(7) - 1;
        int patience = random.nextInt(3) == 0 ? random.nextInt(24) - 1 : random.nextInt(3);
        x = new TokenMesh(cores, repeats, patience);
        m = new Model(cores, repeats, patience);
        deliveries = random.nextInt(80) + 10;
        delivering = random.nextInt(3);
    }

    public static void main(String[] args) {
        boolean right = true;
        for (int seed = 1; seed <= RUNS && right; seed++) {
            right = new WalkTest(seed).walk();
            if (!right) {
                System.out.println("in the walk of seed " + seed);
            }
        }
        // A walk that hardly came to the arbiter would test little.
        Check.due("many accesses end", ends > 20000, true);
        Check.due("many persistent ones end", persistentEnds > 2000, true);
        Check.due("rows grow long", longestRow, 3);
        Check.due("never more than 58 letters wait", mostLetters <= 58, true);
        System.out.println(ends + " accesses ended, " + persistentEnds + " of them persistent; at most "
                + mostLetters + " letters waited");
        Check.finish();
    }

    private boolean walk() {
        for (int call = 0; call < CALLS; call++) {
            int endedBefore = allEnded();
            int[] states = new int[m.n];
            for (int c = 0; c < m.n; c++) {
                states[c] = m.state(c);
            }
            String what = step();
            if (!same(what) || !sound(what)) {
                return false;
            }
            ends += allEnded() - endedBefore;
            for (int c = 0; c < m.n; c++) {
                persistentEnds += states[c] >= 8 && m.state(c) == 0 ? 1 : 0;
            }
            longestRow = Math.max(longestRow, Math.max(x.row(0), x.row(1)));
            mostLetters = Math.max(mostLetters, x.letters());
        }
        return true;
    }

    private int allEnded() {
        int all = 0;
        for (int c = 0; c < m.n; c++) {
            all += m.results.get(c).size();
        }
        return all;
    }

    private String step() {
        int waiting = m.waiting.size();
        if (waiting > 0 && random.nextInt(100) < deliveries) {
            int i = delivering == 0 ? 0 : delivering == 1 ? waiting - 1 : random.nextInt(waiting);
            if (random.nextInt(4) == 0) {
                i = random.nextInt(waiting);
            }
            String what = "deliver(" + i + ") of " + m.letter(i);
            Check.due(what, x.deliver(i), m.deliver(i));
            return what;
        }
        int c = random.nextInt(m.n);
        int b = random.nextInt(4) == 0 ? 1 : 0;
        int choice = random.nextInt(6);
        if (choice == 0) {
            String what = "evict(" + c + ", " + b + ")";
            Check.due(what, x.evict(c, b), m.evict(c, b));
            return what;
        }
        if (choice <= 2) {
            int units = random.nextInt(5) == 0 ? random.nextInt(50) + 1 : random.nextInt(3) + 1;
            String what = "tick(" + units + ")";
            m.tick(units);
            Check.due(what, x.tick(units), m.time);
            return what;
        }
        boolean write = random.nextBoolean();
        int value = random.nextInt();
        String what = "issue(" + c + ", " + write + ", " + b + ", " + value + ")";
        Check.due(what, x.issue(c, write, b, value), m.issue(c, write, b, value));
        return what;
    }

    private boolean same(String what) {
        boolean same = x.letters() == m.waiting.size();
        for (int i = 0; same && i < x.letters(); i++) {
            same = x.letter(i) == m.letter(i);
        }
        for (int b = 0; b < 2; b++) {
            for (int node = 0; node <= m.n; node++) {
                same = same && x.tokens(node, b) == m.tokens(node, b) && x.data(node, b) == m.data(node, b)
                        && x.knows(node, b) == m.knows(node, b);
            }
            same = same && x.row(b) == m.rows.get(b).size() && x.memory(b) == m.memory(b);
        }
        for (int c = 0; c < m.n; c++) {
            same = same && x.state(c) == m.state(c) && x.ended(c) == m.results.get(c).size()
                    && x.result(c) == m.result(c);
        }
        Check.due("as the model after " + what, same, true);
        return same;
    }

    /** No token is lost or made, one of each block is the owner, and all valid data is the same. */
    private boolean sound(String what) {
        boolean sound = true;
        for (int b = 0; b < 2; b++) {
            int count = 0;
            int owners = 0;
            for (int node = 0; node <= m.n; node++) {
                int has = x.tokens(node, b);
                count += has % 8;
                owners += has / 8 % 2;
                boolean valid = has / 16 == 1;
                sound = sound && (!valid || has % 8 > 0 && x.data(node, b) == x.memory(b));
                sound = sound && (has / 8 % 2 == 0 || valid);
            }
            for (int i = 0; i < x.letters(); i++) {
                int l = x.letter(i);
                if (l % 8 == 3 && l / 512 % 2 == b) {
                    count += l / 1024 % 8;
                    owners += l / 8192 % 2;
                }
            }
            sound = sound && count == m.n + 1 && owners == 1;
        }
        Check.due("sound after " + what, sound, true);
        return sound;
    }
}
