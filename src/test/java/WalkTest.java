import java.util.Random;

/**
 * Long runs of calls, the same ones each time, compared with the Model: the answer of every call
 * and of a question behind it, and in the end of every question that there is. An object gets no
 * more than the 512 calls that the document speaks of, so many runs end early.
 */
public final class WalkTest {
    private static final int RUNS = 6000;
    private static final int CALLS = 512;
    /** What the questions in the end take at most: 58 letters, 5 nodes, 2 blocks, 4 cores. */
    private static final int LAST_QUESTIONS = 59 + 5 * 2 * 3 + 2 * 2 + 4 * 3;

    private static int ends;
    private static int persistentEnds;
    private static int longestRow;
    private static int mostLetters;
    private static int refused;

    private final Random random;
    private final TokenMesh x;
    private final Model m;
    private final int deliveries;
    private final int delivering;
    private final int length;
    private int calls;
    private boolean right = true;

    private WalkTest(int seed) {
        random = new Random(seed);
        int cores = random.nextInt(5) + 1;
        int repeats = random.nextInt(7) - 1;
        int patience = random.nextInt(3) == 0 ? random.nextInt(24) - 1 : random.nextInt(3);
        x = new TokenMesh(cores, repeats, patience);
        m = new Model(cores, repeats, patience);
        deliveries = random.nextInt(80) + 10;
        delivering = random.nextInt(3);
        length = random.nextInt(3) == 0 ? random.nextInt(CALLS - LAST_QUESTIONS) : CALLS - LAST_QUESTIONS - 2;
    }

    public static void main(String[] args) {
        boolean allRight = true;
        for (int seed = 1; seed <= RUNS && allRight; seed++) {
            allRight = new WalkTest(seed).walk();
            if (!allRight) {
                System.out.println("in the walk of seed " + seed);
            }
        }
        // A walk that hardly came to the arbiter would test little.
        Check.due("many accesses end", ends > 20000, true);
        Check.due("many persistent ones end", persistentEnds > 2000, true);
        Check.due("many calls are refused", refused > 20000, true);
        Check.due("rows grow long", longestRow, 3);
        Check.due("never more than 58 letters wait", mostLetters <= 58, true);
        System.out.println(ends + " accesses ended, " + persistentEnds + " of them persistent; at most "
                + mostLetters + " letters waited; " + refused + " calls were refused");
        Check.finish();
    }

    private boolean walk() {
        while (right && calls < length) {
            int endedBefore = allEnded();
            int[] states = new int[m.n];
            for (int c = 0; c < m.n; c++) {
                states[c] = m.state(c);
            }
            step();
            question();
            due("the model is sound", sound() ? 1 : 0, 1);
            ends += allEnded() - endedBefore;
            for (int c = 0; c < m.n; c++) {
                persistentEnds += states[c] >= 8 && m.state(c) == 0 ? 1 : 0;
            }
            longestRow = Math.max(longestRow, Math.max(m.rows.get(0).size(), m.rows.get(1).size()));
            mostLetters = Math.max(mostLetters, m.waiting.size());
        }
        if (right) {
            lastQuestions();
        }
        return right;
    }

    private void due(String what, int got, int want) {
        Check.due(what, got, want);
        right = right && got == want;
    }

    /** The answer of one call. */
    private void dueCall(String what, int got, int want) {
        calls++;
        due("call " + calls + ", " + what, got, want);
    }

    private int allEnded() {
        int all = 0;
        for (int c = 0; c < m.n; c++) {
            all += m.results.get(c).size();
        }
        return all;
    }

    private void step() {
        int waiting = m.waiting.size();
        if (random.nextInt(16) == 0) {
            refusedCall();
            return;
        }
        if (waiting > 0 && random.nextInt(100) < deliveries) {
            int i = delivering == 0 ? 0 : delivering == 1 ? waiting - 1 : random.nextInt(waiting);
            if (random.nextInt(4) == 0) {
                i = random.nextInt(waiting);
            }
            String what = "deliver(" + i + ") of " + m.letter(i);
            dueCall(what, x.deliver(i), m.deliver(i));
            return;
        }
        int c = random.nextInt(m.n);
        int b = random.nextInt(4) == 0 ? 1 : 0;
        int choice = random.nextInt(6);
        if (choice == 0) {
            dueCall("evict(" + c + ", " + b + ")", x.evict(c, b) ? 1 : 0, m.evict(c, b) ? 1 : 0);
        } else if (choice <= 2) {
            int units = random.nextInt(5) == 0 ? random.nextInt(50) + 1 : random.nextInt(3) + 1;
            m.tick(units);
            dueCall("tick(" + units + ")", x.tick(units), m.time);
        } else {
            boolean write = random.nextBoolean();
            int value = random.nextInt();
            String what = "issue(" + c + ", " + write + ", " + b + ", " + value + ")";
            dueCall(what, x.issue(c, write, b, value), m.issue(c, write, b, value));
        }
    }

    /** A number that is not among 0 .. count - 1. */
    private int outside(int count) {
        int far = random.nextInt(3) == 0 ? random.nextInt(Integer.MAX_VALUE - count) : random.nextInt(3);
        return random.nextBoolean() ? -1 - far : count + far;
    }

    /** The model is left alone, as a call that is refused changes nothing. */
    private void refusedCall() {
        refused++;
        int core = outside(m.n);
        int block = outside(2);
        int someCore = random.nextInt(m.n);
        int someBlock = random.nextInt(2);
        boolean write = random.nextBoolean();
        switch (random.nextInt(6)) {
            case 0 -> dueCall("issue by core " + core, x.issue(core, write, someBlock, 7), -1);
            case 1 -> dueCall("issue of block " + block, x.issue(someCore, write, block, 7), -1);
            case 2 -> {
                int n = outside(51);
                int units = random.nextInt(4) == 0 ? 0 : n;
                dueCall("tick(" + units + ")", x.tick(units), -1);
            }
            case 3 -> {
                int i = outside(m.waiting.size());
                dueCall("deliver(" + i + ")", x.deliver(i), -1);
            }
            case 4 -> dueCall("evict by core " + core, x.evict(core, someBlock) ? 1 : 0, 0);
            default -> dueCall("evict of block " + block, x.evict(someCore, block) ? 1 : 0, 0);
        }
    }

    private void question() {
        int node = random.nextInt(m.n + 1);
        int c = random.nextInt(m.n);
        int b = random.nextInt(2);
        switch (random.nextInt(10)) {
            case 0 -> dueCall("letters", x.letters(), m.waiting.size());
            case 1 -> {
                int i = random.nextInt(m.waiting.size() + 1);
                dueCall("letter(" + i + ")", x.letter(i), i < m.waiting.size() ? m.letter(i) : -1);
            }
            case 2 -> dueCall("tokens", x.tokens(node, b), m.tokens(node, b));
            case 3 -> dueCall("data", x.data(node, b), m.data(node, b));
            case 4 -> dueCall("knows", x.knows(node, b), m.knows(node, b));
            case 5 -> dueCall("row", x.row(b), m.rows.get(b).size());
            case 6 -> dueCall("state", x.state(c), m.state(c));
            case 7 -> dueCall("ended", x.ended(c), m.results.get(c).size());
            case 8 -> dueCall("result", x.result(c), m.result(c));
            default -> dueCall("memory", x.memory(b), m.memory(b));
        }
    }

    private void lastQuestions() {
        dueCall("letters", x.letters(), m.waiting.size());
        for (int i = 0; i < m.waiting.size(); i++) {
            dueCall("letter(" + i + ")", x.letter(i), m.letter(i));
        }
        for (int b = 0; b < 2; b++) {
            for (int node = 0; node <= m.n; node++) {
                dueCall("tokens(" + node + ", " + b + ")", x.tokens(node, b), m.tokens(node, b));
                dueCall("data(" + node + ", " + b + ")", x.data(node, b), m.data(node, b));
                dueCall("knows(" + node + ", " + b + ")", x.knows(node, b), m.knows(node, b));
            }
            dueCall("row(" + b + ")", x.row(b), m.rows.get(b).size());
            dueCall("memory(" + b + ")", x.memory(b), m.memory(b));
        }
        for (int c = 0; c < m.n; c++) {
            dueCall("state(" + c + ")", x.state(c), m.state(c));
            dueCall("ended(" + c + ")", x.ended(c), m.results.get(c).size());
            dueCall("result(" + c + ")", x.result(c), m.result(c));
        }
        due("no more calls than an object is made for", calls <= CALLS ? 1 : 0, 1);
    }

    /** No token is lost or made, one of each block is the owner, and all valid data is the same. */
    private boolean sound() {
        boolean sound = true;
        for (int b = 0; b < 2; b++) {
            int count = 0;
            int owners = 0;
            for (int node = 0; node <= m.n; node++) {
                int has = m.tokens(node, b);
                count += has % 8;
                owners += has / 8 % 2;
                boolean valid = has / 16 == 1;
                sound = sound && (!valid || has % 8 > 0 && m.data(node, b) == m.memory(b));
                sound = sound && (has / 8 % 2 == 0 || valid);
            }
            for (int i = 0; i < m.waiting.size(); i++) {
                int l = m.letter(i);
                if (l % 8 == 3 && l / 512 % 2 == b) {
                    count += l / 1024 % 8;
                    owners += l / 8192 % 2;
                }
            }
            sound = sound && count == m.n + 1 && owners == 1;
        }
        return sound;
    }
}
