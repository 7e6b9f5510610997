/** Counts the answers that are not as due, and names letters by the sum that letter(i) answers. */
final class Check {
    /** What is below every place, core, node and block. */
    static final int[] TOO_SMALL = {Integer.MIN_VALUE, -1024, -2, -1};

    private static int wrong = 0;
    private static int asked = 0;
    private static int tests = 0;
    private static String sentence = "";

    private Check() {
    }

    /** Runs the test of one sentence of the document. */
    static void test(String ofSentence, Runnable body) {
        tests++;
        sentence = ofSentence;
        try {
            body.run();
        } catch (RuntimeException e) {
            wrong++;
            System.out.println("[" + sentence + "] threw " + e);
        }
        sentence = "";
    }

    static void due(String what, long got, long want) {
        asked++;
        if (got != want) {
            wrong++;
            String of = sentence.isEmpty() ? "" : "[" + sentence + "] ";
            System.out.println(of + what + ": answered " + got + ", due is " + want);
        }
    }

    static void due(String what, boolean got, boolean want) {
        due(what, got ? 1 : 0, want ? 1 : 0);
    }

    /** All letters that wait, in order. */
    static void dueLetters(String what, TokenMesh x, int... want) {
        due(what + ", letters()", x.letters(), want.length);
        for (int i = 0; i < want.length; i++) {
            due(what + ", letter(" + i + ")", x.letter(i), want[i]);
        }
        due(what + ", letter behind the last", x.letter(want.length), -1);
    }

    /** What is above every place, core, node or block, when this is the first above. */
    static int[] tooLarge(int first) {
        return new int[] {first, first + 1, first + 1024, Integer.MAX_VALUE};
    }

    static void finish() {
        String of = tests == 0 ? "" : tests + " tests: ";
        System.out.println(of + (wrong == 0 ? asked + " answers are as due" : wrong + " answers are not as due"));
        if (wrong != 0) {
            System.exit(1);
        }
    }

    static int read(int from, int to, int block) {
        return 1 + 8 * to + 64 * from + 512 * block;
    }

    static int write(int from, int to, int block) {
        return 2 + 8 * to + 64 * from + 512 * block;
    }

    /** TOKENS without the owner and without data. */
    static int bare(int from, int to, int block, int count) {
        return 3 + 8 * to + 64 * from + 512 * block + 1024 * count;
    }

    /** TOKENS without the owner, with data. */
    static int copy(int from, int to, int block, int count) {
        return bare(from, to, block, count) + 16384;
    }

    /** TOKENS with the owner and so with data. */
    static int owner(int from, int to, int block, int count) {
        return copy(from, to, block, count) + 8192;
    }

    static int please(int from, int home, int block) {
        return 4 + 8 * home + 64 * from + 512 * block;
    }

    static int know(int home, int to, int block) {
        return 5 + 8 * to + 64 * home + 512 * block;
    }

    static int over(int from, int home) {
        return 6 + 8 * home + 64 * from;
    }

    /** Delivers the first letter with this sum; it is wrong if there is none. */
    static void bring(TokenMesh x, int sum) {
        int waiting = x.letters();
        for (int i = 0; i < waiting; i++) {
            if (x.letter(i) == sum) {
                due("deliver(" + i + ")", x.deliver(i), sum % 8);
                return;
            }
        }
        due("a letter " + sum + " waits", 0, 1);
    }

    /** Core c, with none of its letters waiting, reads from the node that has the owner. */
    static void readFrom(TokenMesh x, int node, int c, int block) {
        due("issue of a read", x.issue(c, false, block, 0), 0);
        bring(x, read(c, node, block));
        bring(x, copy(node, c, block, 1));
        due("state after the read", x.state(c), 0);
    }

    /** Core c gets all tokens from the home, which has them, and writes. */
    static void writeFromHome(TokenMesh x, int home, int c, int block, int value) {
        due("issue of a write", x.issue(c, true, block, value), 0);
        bring(x, write(c, home, block));
        bring(x, owner(home, c, block, home + 1));
        due("state after the write", x.state(c), 0);
    }
}
