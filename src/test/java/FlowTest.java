import java.util.Random;

/**
 * What the whole is for, with no model beside it: an access that ends has found what the latest
 * write left, no token is lost or made, and once nothing new is begun, every access ends, in
 * whatever order the letters come. Few questions are asked, to keep within 512 calls.
 */
public final class FlowTest {
    private static final int RUNS = 4000;
    private static final int BEGINNINGS = 12;
    /** More letters than are ever delivered until nothing is under way. */
    private static final int MOST_LETTERS = 100;

    private final Random random;
    private final int cores;
    private final TokenMesh x;
    /** What the latest write to each block left. */
    private final int[] left = new int[2];
    /** Of the access of each core: whether it is under way, its block, whether it writes, and what. */
    private final boolean[] underWay;
    private final int[] blocks;
    private final boolean[] writes;
    private final int[] values;

    private FlowTest(int seed) {
        random = new Random(seed);
        cores = 2 + random.nextInt(3);
        x = new TokenMesh(cores, random.nextInt(5), 1 + random.nextInt(3));
        underWay = new boolean[cores];
        blocks = new int[cores];
        writes = new boolean[cores];
        values = new int[cores];
    }

    public static void main(String[] args) {
        for (int seed = 1; seed <= RUNS; seed++) {
            int of = seed;
            Check.test("run " + seed, () -> new FlowTest(of).flow());
        }
        Check.finish();
    }

    private void flow() {
        for (int k = 0; k < BEGINNINGS; k++) {
            int c = random.nextInt(cores);
            if (!underWay[c]) {
                begin(c);
            }
            for (int d = random.nextInt(4); d > 0; d--) {
                anyLetter();
            }
            if (random.nextInt(3) == 0) {
                x.evict(random.nextInt(cores), random.nextInt(2));
            }
            if (random.nextInt(3) == 0) {
                x.tick(1 + random.nextInt(3));
            }
        }
        letAllEnd();
        for (int block = 0; block < 2; block++) {
            dueAtRest(block);
        }
    }

    private void begin(int c) {
        blocks[c] = random.nextInt(2);
        writes[c] = random.nextBoolean();
        values[c] = random.nextInt();
        underWay[c] = true;
        if (x.issue(c, writes[c], blocks[c], values[c]) == 1) {
            dueEnd(c);
        }
        Check.due("memory", x.memory(blocks[c]), left[blocks[c]]);
    }

    /** False when none waits. */
    private boolean anyLetter() {
        int waiting = x.letters();
        if (waiting == 0) {
            return false;
        }
        int i = random.nextInt(waiting);
        int sum = x.letter(i);
        int receiver = sum / 8 % 8;
        x.deliver(i);
        // Only TOKENS of its block can end an access.
        boolean mayEnd = receiver < cores && underWay[receiver]
                && sum % 8 == 3 && sum / 512 % 2 == blocks[receiver];
        if (mayEnd && x.state(receiver) == 0) {
            dueEnd(receiver);
        }
        return true;
    }

    private void dueEnd(int c) {
        underWay[c] = false;
        Check.due("result", x.result(c), left[blocks[c]]);
        if (writes[c]) {
            left[blocks[c]] = values[c];
        }
    }

    private void letAllEnd() {
        for (int k = 0; k < MOST_LETTERS; k++) {
            boolean wasOne = anyLetter();
            if (!wasOne && !anyUnderWay()) {
                return;
            }
            if (!wasOne || random.nextInt(8) == 0) {
                x.tick(1 + random.nextInt(3));
            }
        }
        Check.due("all accesses have ended and all letters are delivered", false, true);
    }

    private boolean anyUnderWay() {
        boolean any = false;
        for (boolean is : underWay) {
            any = any || is;
        }
        return any;
    }

    private void dueAtRest(int block) {
        int count = 0;
        int owners = 0;
        for (int node = 0; node <= cores; node++) {
            int has = x.tokens(node, block);
            count += has % 8;
            owners += has / 8 % 2;
            if (has >= 16) {
                Check.due("valid data", x.data(node, block), left[block]);
            }
            Check.due("known", x.knows(node, block), -1);
        }
        Check.due("tokens", count, cores + 1);
        Check.due("owners", owners, 1);
        Check.due("row", x.row(block), 0);
        Check.due("memory", x.memory(block), left[block]);
    }
}
