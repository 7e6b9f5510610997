import java.util.ArrayList;

/**
 * Cores that read and write two blocks of memory by way of tokens: who has one may read, who has
 * all may write; tokens are asked for by letters that may come in any order, and who has asked in
 * vain too often asks once more by way of an arbiter, to whom all give way.
 */
public final class TokenMesh {
    private static final int READ = 1;
    private static final int WRITE = 2;
    private static final int TOKENS = 3;
    private static final int PLEASE = 4;
    private static final int KNOW = 5;
    private static final int OVER = 6;

    private static final int BLOCKS = 2;
    private static final int NOBODY = -1;
    private static final int LONGEST_TICK = 50;

    private final int cores;
    private final int home;
    private final int allTokens;
    private final int repeats;
    private final int patience;
    private final Share[] shares;
    private final Core[] crew;
    private final Desk[] desks;
    /** For each core, the number up to which its requests have lapsed. */
    private final int[] lapsed;
    private final Mail mail;
    private int time;

    public TokenMesh(int cores, int repeats, int patience) {
        this.cores = clamp(cores, 2, 4);
        this.repeats = clamp(repeats, 0, 4);
        this.patience = clamp(patience, 1, 20);
        home = this.cores;
        allTokens = this.cores + 1;
        shares = new Share[(this.cores + 1) * BLOCKS];
        for (int i = 0; i < shares.length; i++) {
            shares[i] = new Share();
        }
        crew = new Core[this.cores];
        for (int c = 0; c < crew.length; c++) {
            crew[c] = new Core();
        }
        lapsed = new int[this.cores];
        desks = new Desk[BLOCKS];
        for (int b = 0; b < BLOCKS; b++) {
            desks[b] = new Desk();
            Share all = shares[home * BLOCKS + b];
            all.count = allTokens;
            all.owner = true;
            all.valid = true;
        }
        mail = new Mail();
    }

    public int issue(int c, boolean write, int block, int value) {
        if (!isCore(c) || !isBlock(block)) {
            return -1;
        }
        Core core = crew[c];
        if (core.underWay) {
            return -2;
        }
        core.begin(write, block, value);
        if (canEnd(c)) {
            end(c);
            return 1;
        }
        core.due = time + patience;
        ask(c);
        return 0;
    }

    public int tick(int n) {
        if (n < 1 || n > LONGEST_TICK) {
            return -1;
        }
        for (int unit = 0; unit < n; unit++) {
            time++;
            for (int c = 0; c < cores; c++) {
                if (crew[c].isDue(time)) {
                    askAgain(c);
                }
            }
        }
        return time;
    }

    public int deliver(int i) {
        if (!mail.has(i)) {
            return -1;
        }
        Letter l = mail.take(i);
        int kind = l.kind;
        switch (kind) {
            case READ:
                onRead(l.to, l.block, l.from);
                break;
            case WRITE:
                onWrite(l.to, l.block, l.from);
                break;
            case TOKENS:
                onTokens(l);
                break;
            case PLEASE:
                onPlease(l.from, l.block, l.number, l.write);
                break;
            case KNOW:
                onKnow(l);
                break;
            default:
                lapse(l.from, l.number);
                break;
        }
        mail.giveBack(l);
        return kind;
    }

    public boolean evict(int c, int block) {
        if (!isCore(c) || !isBlock(block)) {
            return false;
        }
        Share s = share(c, block);
        if (s.count == 0 || crew[c].isBusyWith(block)) {
            return false;
        }
        give(c, home, block, s.count, s.owner, s.owner);
        return true;
    }

    public int letters() {
        return mail.size();
    }

    public int letter(int i) {
        if (!mail.has(i)) {
            return -1;
        }
        return mail.at(i).sum();
    }

    public int tokens(int node, int block) {
        if (!isNode(node) || !isBlock(block)) {
            return -1;
        }
        Share s = share(node, block);
        return s.count + (s.owner ? 8 : 0) + (s.valid ? 16 : 0);
    }

    public int data(int node, int block) {
        if (!isNode(node) || !isBlock(block)) {
            return 0;
        }
        Share s = share(node, block);
        return s.valid ? s.value : 0;
    }

    public int knows(int node, int block) {
        if (!isNode(node) || !isBlock(block)) {
            return -2;
        }
        Share s = share(node, block);
        if (s.activeCore == NOBODY) {
            return -1;
        }
        return s.activeCore + (s.activeWrite ? 8 : 0);
    }

    public int row(int block) {
        return isBlock(block) ? desks[block].row.size() : -1;
    }

    public int state(int c) {
        if (!isCore(c)) {
            return -1;
        }
        Core core = crew[c];
        if (!core.underWay) {
            return 0;
        }
        return 1 + core.repeated + (core.persistent ? 8 : 0);
    }

    public int ended(int c) {
        return isCore(c) ? crew[c].endedCount : -1;
    }

    public int result(int c) {
        return isCore(c) ? crew[c].latestResult : 0;
    }

    public int memory(int block) {
        if (!isBlock(block)) {
            return 0;
        }
        for (int node = 0; node <= home; node++) {
            Share s = share(node, block);
            if (s.owner) {
                return s.value;
            }
        }
        for (int i = 0; i < mail.size(); i++) {
            Letter l = mail.at(i);
            if (l.owner && l.block == block) {
                return l.value;
            }
        }
        return 0;
    }

    private static int clamp(int value, int least, int most) {
        return Math.max(least, Math.min(most, value));
    }

    private boolean isCore(int c) {
        return c >= 0 && c < cores;
    }

    private boolean isNode(int node) {
        return node >= 0 && node <= home;
    }

    private static boolean isBlock(int block) {
        return block >= 0 && block < BLOCKS;
    }

    private Share share(int node, int block) {
        return shares[node * BLOCKS + block];
    }

    // Accesses

    private boolean canEnd(int c) {
        Core core = crew[c];
        Share s = share(c, core.block);
        return s.valid && (!core.write || s.count == allTokens);
    }

    private void end(int c) {
        Core core = crew[c];
        Share s = share(c, core.block);
        core.latestResult = s.value;
        if (core.write) {
            s.value = core.value;
        }
        core.underWay = false;
        core.endedCount++;
        if (core.persistent) {
            Letter over = mail.send(OVER, c, home, 0);
            over.number = core.number;
        }
    }

    private void ask(int c) {
        Core core = crew[c];
        // The home has the greatest number of all nodes, so it comes last by itself.
        for (int node = 0; node <= home; node++) {
            if (node != c) {
                mail.send(core.write ? WRITE : READ, c, node, core.block);
            }
        }
    }

    private void askAgain(int c) {
        Core core = crew[c];
        if (core.repeated < repeats) {
            core.repeated++;
            core.due = time + patience;
            ask(c);
            return;
        }
        core.persistent = true;
        Letter please = mail.send(PLEASE, c, home, core.block);
        please.number = core.number;
        please.write = core.write;
    }

    // Giving

    private void give(int from, int to, int block, int count, boolean owner, boolean withData) {
        if (count == 0) {
            return;
        }
        Share s = share(from, block);
        Letter l = mail.send(TOKENS, from, to, block);
        l.count = count;
        l.owner = owner;
        l.withData = withData;
        l.value = s.value;
        s.lose(count, owner);
    }

    private void giveWay(int node, int block) {
        Share s = share(node, block);
        if (s.activeCore == NOBODY || s.activeCore == node) {
            return;
        }
        if (s.activeWrite) {
            give(node, s.activeCore, block, s.count, s.owner, s.owner);
        } else if (s.owner) {
            give(node, s.activeCore, block, 1, true, true);
        }
    }

    // What letters do when they are delivered

    private void onRead(int x, int block, int c) {
        Share s = share(x, block);
        if (s.activeCore != NOBODY || !s.owner) {
            return;
        }
        boolean ownerGoes = s.count == 1;
        give(x, c, block, 1, ownerGoes, true);
    }

    private void onWrite(int x, int block, int c) {
        Share s = share(x, block);
        if (s.activeCore == NOBODY) {
            give(x, c, block, s.count, s.owner, s.owner);
        }
    }

    private void onTokens(Letter l) {
        share(l.to, l.block).gain(l);
        giveWay(l.to, l.block);
        if (isCore(l.to) && crew[l.to].isBusyWith(l.block) && canEnd(l.to)) {
            end(l.to);
        }
    }

    private void onPlease(int c, int block, int number, boolean write) {
        if (number <= lapsed[c]) {
            return;
        }
        lapse(c, number - 1);
        Desk desk = desks[block];
        desk.row.add(new Request(c, number, write));
        if (desk.active == null) {
            activateFirst(block);
        }
    }

    private void onKnow(Letter l) {
        Share s = share(l.to, l.block);
        boolean newer = l.number > s.serial;
        boolean endOfSame = l.number == s.serial && l.activeCore == NOBODY;
        if (newer || endOfSame) {
            s.learn(l.activeCore, l.write, l.number);
            giveWay(l.to, l.block);
        }
    }

    // The arbiter at the home

    private void lapse(int c, int number) {
        if (number <= lapsed[c]) {
            return;
        }
        lapsed[c] = number;
        // Both rows are cleared first, so that no lapsed request becomes active in between.
        for (int b = 0; b < BLOCKS; b++) {
            desks[b].strike(c, number);
        }
        for (int b = 0; b < BLOCKS; b++) {
            Desk desk = desks[b];
            if (desk.active != null && desk.active.isOf(c, number)) {
                desk.active = null;
                tellActive(b);
                activateFirst(b);
            }
        }
    }

    private void activateFirst(int block) {
        Desk desk = desks[block];
        if (desk.row.isEmpty()) {
            return;
        }
        desk.active = desk.row.remove(0);
        desk.serial++;
        tellActive(block);
        giveWay(home, block);
    }

    private void tellActive(int block) {
        Desk desk = desks[block];
        int core = desk.active == null ? NOBODY : desk.active.core;
        boolean write = desk.active != null && desk.active.write;
        for (int c = 0; c < cores; c++) {
            Letter know = mail.send(KNOW, home, c, block);
            know.activeCore = core;
            know.write = write;
            know.number = desk.serial;
        }
        share(home, block).learn(core, write, desk.serial);
    }

    /** What one node has of one block, and what it knows of the block's active request. */
    private static final class Share {
        int count;
        boolean owner;
        boolean valid;
        int value;
        int activeCore = NOBODY;
        boolean activeWrite;
        int serial;

        void gain(Letter l) {
            count += l.count;
            owner = owner || l.owner;
            if (l.withData) {
                valid = true;
                value = l.value;
            }
        }

        void lose(int lost, boolean withOwner) {
            count -= lost;
            owner = owner && !withOwner;
            valid = valid && count > 0;
        }

        void learn(int core, boolean write, int newSerial) {
            activeCore = core;
            activeWrite = write;
            serial = newSerial;
        }
    }

    /** A core's access, under way or ended, and what came of the earlier ones. */
    private static final class Core {
        int number;
        boolean underWay;
        boolean write;
        int block;
        int value;
        int repeated;
        int due;
        boolean persistent;
        int endedCount;
        int latestResult;

        void begin(boolean writes, int ofBlock, int newValue) {
            number++;
            underWay = true;
            write = writes;
            block = ofBlock;
            value = newValue;
            repeated = 0;
            persistent = false;
        }

        boolean isDue(int now) {
            return underWay && !persistent && due == now;
        }

        boolean isBusyWith(int ofBlock) {
            return underWay && block == ofBlock;
        }
    }

    /** A core's plea to the arbiter for the sake of one access. */
    private static final class Request {
        final int core;
        final int number;
        final boolean write;

        Request(int core, int number, boolean write) {
            this.core = core;
            this.number = number;
            this.write = write;
        }

        boolean isOf(int c, int upTo) {
            return core == c && number <= upTo;
        }
    }

    /** The arbiter's part for one block; active is null when there is no active request. */
    private static final class Desk {
        final ArrayList<Request> row = new ArrayList<>();
        Request active;
        int serial;

        void strike(int c, int upTo) {
            for (int i = row.size() - 1; i >= 0; i--) {
                if (row.get(i).isOf(c, upTo)) {
                    row.remove(i);
                }
            }
        }
    }

    private static final class Letter {
        int kind;
        int from;
        int to;
        int block;
        int count;
        boolean owner;
        boolean withData;
        int value;
        /** The access's number in a PLEASE or an OVER, the serial in a KNOW. */
        int number;
        /** In a KNOW, the core of the active request. */
        int activeCore;
        /** In a PLEASE or a KNOW, whether the request is for writing. */
        boolean write;

        void address(int newKind, int sender, int receiver, int ofBlock) {
            kind = newKind;
            from = sender;
            to = receiver;
            block = ofBlock;
            count = 0;
            owner = false;
            withData = false;
            value = 0;
            number = 0;
            activeCore = NOBODY;
            write = false;
        }

        boolean yieldsTo(int newKind, int sender, int receiver, int ofBlock) {
            return kind == newKind && from == sender && to == receiver
                    && (kind != KNOW || block == ofBlock);
        }

        int sum() {
            int address = kind + 8 * to + 64 * from + 512 * block;
            return address + 1024 * count + (owner ? 8192 : 0) + (withData ? 16384 : 0);
        }
    }

    /**
     * The letters that wait, in order. Never more than 58 do, as all but TOKENS take each other's
     * places and each TOKENS holds a token; so letters are kept and written on again.
     */
    private static final class Mail {
        private final ArrayList<Letter> waiting = new ArrayList<>();
        private final ArrayList<Letter> spare = new ArrayList<>();

        int size() {
            return waiting.size();
        }

        boolean has(int i) {
            return i >= 0 && i < waiting.size();
        }

        Letter at(int i) {
            return waiting.get(i);
        }

        /** The letter stays as it is until it is given back, whatever is sent meanwhile. */
        Letter take(int i) {
            return waiting.remove(i);
        }

        void giveBack(Letter l) {
            spare.add(l);
        }

        /** The letter is the last that waits; its sender writes the rest of it. */
        Letter send(int kind, int from, int to, int block) {
            if (kind != TOKENS) {
                dropOlder(kind, from, to, block);
            }
            Letter l = spare.isEmpty() ? new Letter() : spare.remove(spare.size() - 1);
            l.address(kind, from, to, block);
            waiting.add(l);
            return l;
        }

        private void dropOlder(int kind, int from, int to, int block) {
            for (int i = 0; i < waiting.size(); i++) {
                if (waiting.get(i).yieldsTo(kind, from, to, block)) {
                    spare.add(waiting.remove(i));
                    return;
                }
            }
        }
    }
}
