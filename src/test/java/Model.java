import java.util.ArrayList;
import java.util.HashMap;
import java.util.List;
import java.util.Map;

/**
 * The document once more, line by line and with no thought of thrift, to be compared with
 * TokenMesh. Nothing here is refused: callers give it only what the document lets through.
 */
final class Model {
    record Active(int core, int number, boolean write) { }

    record Knowledge(Active active, int serial) { }

    record Hand(int tokens, boolean owner, boolean valid, int data) { }

    record Spot(int node, int block) { }

    record Letter(String kind, int from, int to, int block, Hand tokens, Active request, int number) { }

    static final class Access {
        boolean write;
        int block;
        int value;
        int number;
        int repeated;
        int repeatAt;
        boolean persistent;
    }

    static final List<String> KINDS = List.of("", "READ", "WRITE", "TOKENS", "PLEASE", "KNOW", "OVER");

    final int n;
    final int repeats;
    final int patience;
    int time = 0;
    final Map<Spot, Hand> hands = new HashMap<>();
    final Map<Spot, Knowledge> known = new HashMap<>();
    final Map<Integer, Access> accesses = new HashMap<>();
    final Map<Integer, Integer> numbers = new HashMap<>();
    final Map<Integer, List<Integer>> results = new HashMap<>();
    final Map<Integer, Integer> lapsed = new HashMap<>();
    final List<List<Active>> rows = List.of(new ArrayList<>(), new ArrayList<>());
    final List<Letter> waiting = new ArrayList<>();

    Model(int cores, int repeats, int patience) {
        this.n = cores < 2 ? 2 : cores > 4 ? 4 : cores;
        this.repeats = repeats < 0 ? 0 : repeats > 4 ? 4 : repeats;
        this.patience = patience < 1 ? 1 : patience > 20 ? 20 : patience;
        for (int node = 0; node <= n; node++) {
            for (int b = 0; b < 2; b++) {
                boolean home = node == n;
                hands.put(new Spot(node, b), new Hand(home ? n + 1 : 0, home, home, 0));
                known.put(new Spot(node, b), new Knowledge(null, 0));
            }
        }
        for (int c = 0; c < n; c++) {
            numbers.put(c, 0);
            results.put(c, new ArrayList<>());
            lapsed.put(c, 0);
        }
    }

    int issue(int c, boolean write, int block, int value) {
        if (accesses.containsKey(c)) {
            return -2;
        }
        Access a = new Access();
        a.write = write;
        a.block = block;
        a.value = value;
        a.number = numbers.merge(c, 1, Integer::sum);
        a.repeatAt = time + patience;
        accesses.put(c, a);
        if (endIfPossible(c, block)) {
            return 1;
        }
        ask(c);
        return 0;
    }

    void tick(int units) {
        for (int u = 0; u < units; u++) {
            time++;
            for (int c = 0; c < n; c++) {
                Access a = accesses.get(c);
                if (a == null || a.persistent || a.repeatAt != time) {
                    continue;
                }
                if (a.repeated < repeats) {
                    a.repeated++;
                    a.repeatAt = time + patience;
                    ask(c);
                } else {
                    a.persistent = true;
                    send(new Letter("PLEASE", c, n, a.block, null, new Active(c, a.number, a.write), a.number));
                }
            }
        }
    }

    int deliver(int i) {
        Letter l = waiting.remove(i);
        Spot at = new Spot(l.to, l.block);
        switch (l.kind) {
            case "READ" -> {
                Hand h = hands.get(at);
                if (known.get(at).active == null && h.owner) {
                    give(l.to, l.from, l.block, 1, h.tokens == 1, true);
                }
            }
            case "WRITE" -> {
                if (known.get(at).active == null) {
                    giveAll(l.to, l.from, l.block);
                }
            }
            case "TOKENS" -> {
                Hand h = hands.get(at);
                Hand got = l.tokens;
                hands.put(at, new Hand(h.tokens + got.tokens, h.owner || got.owner,
                        h.valid || got.valid, got.valid ? got.data : h.data));
                giveWay(at);
                endIfPossible(l.to, l.block);
            }
            case "PLEASE" -> {
                if (l.number > lapsed.get(l.from)) {
                    lapse(l.from, l.number - 1);
                    rows.get(l.block).add(l.request);
                    if (known.get(new Spot(n, l.block)).active == null) {
                        firstBecomesActive(l.block);
                    }
                }
            }
            case "KNOW" -> {
                int serial = known.get(at).serial;
                if (l.number > serial || l.number == serial && l.request == null) {
                    known.put(at, new Knowledge(l.request, l.number));
                    giveWay(at);
                }
            }
            case "OVER" -> lapse(l.from, l.number);
            default -> throw new IllegalStateException(l.kind);
        }
        return KINDS.indexOf(l.kind);
    }

    boolean evict(int c, int block) {
        Access a = accesses.get(c);
        if (hands.get(new Spot(c, block)).tokens == 0 || a != null && a.block == block) {
            return false;
        }
        giveAll(c, n, block);
        return true;
    }

    int letter(int i) {
        Letter l = waiting.get(i);
        int sum = KINDS.indexOf(l.kind) + 8 * l.to + 64 * l.from + (l.kind.equals("OVER") ? 0 : 512 * l.block);
        if (l.kind.equals("TOKENS")) {
            sum += 1024 * l.tokens.tokens + (l.tokens.owner ? 8192 : 0) + (l.tokens.valid ? 16384 : 0);
        }
        return sum;
    }

    int tokens(int node, int block) {
        Hand h = hands.get(new Spot(node, block));
        return h.tokens + (h.owner ? 8 : 0) + (h.valid ? 16 : 0);
    }

    int data(int node, int block) {
        Hand h = hands.get(new Spot(node, block));
        return h.valid ? h.data : 0;
    }

    int knows(int node, int block) {
        Active a = known.get(new Spot(node, block)).active;
        return a == null ? -1 : a.core + (a.write ? 8 : 0);
    }

    int state(int c) {
        Access a = accesses.get(c);
        return a == null ? 0 : 1 + a.repeated + (a.persistent ? 8 : 0);
    }

    int result(int c) {
        List<Integer> all = results.get(c);
        return all.isEmpty() ? 0 : all.get(all.size() - 1);
    }

    int memory(int block) {
        for (Map.Entry<Spot, Hand> e : hands.entrySet()) {
            if (e.getKey().block == block && e.getValue().owner) {
                return e.getValue().data;
            }
        }
        for (Letter l : waiting) {
            if (l.kind.equals("TOKENS") && l.block == block && l.tokens.owner) {
                return l.tokens.data;
            }
        }
        throw new IllegalStateException("the owner is lost");
    }

    private void ask(int c) {
        Access a = accesses.get(c);
        for (int node = 0; node <= n; node++) {
            if (node != c) {
                send(new Letter(a.write ? "WRITE" : "READ", c, node, a.block, null, null, 0));
            }
        }
    }

    private boolean endIfPossible(int c, int block) {
        Access a = accesses.get(c);
        if (a == null || a.block != block) {
            return false;
        }
        Spot at = new Spot(c, block);
        Hand h = hands.get(at);
        if (!h.valid || a.write && h.tokens != n + 1) {
            return false;
        }
        results.get(c).add(h.data);
        if (a.write) {
            hands.put(at, new Hand(h.tokens, h.owner, true, a.value));
        }
        accesses.remove(c);
        if (a.persistent) {
            send(new Letter("OVER", c, n, -1, null, null, a.number));
        }
        return true;
    }

    private void send(Letter l) {
        if (!l.kind.equals("TOKENS")) {
            waiting.removeIf(w -> w.kind.equals(l.kind) && w.from == l.from && w.to == l.to
                    && (!l.kind.equals("KNOW") || w.block == l.block));
        }
        waiting.add(l);
    }

    private void giveAll(int from, int to, int block) {
        Hand h = hands.get(new Spot(from, block));
        if (h.tokens > 0) {
            give(from, to, block, h.tokens, h.owner, h.owner);
        }
    }

    private void give(int from, int to, int block, int count, boolean owner, boolean data) {
        Spot at = new Spot(from, block);
        Hand h = hands.get(at);
        int left = h.tokens - count;
        hands.put(at, new Hand(left, h.owner && !owner, h.valid && left > 0, h.data));
        send(new Letter("TOKENS", from, to, block, new Hand(count, owner, data, h.data), null, 0));
    }

    private void giveWay(Spot at) {
        Active a = known.get(at).active;
        if (a == null || a.core == at.node) {
            return;
        }
        if (a.write) {
            giveAll(at.node, a.core, at.block);
        } else if (hands.get(at).owner) {
            give(at.node, a.core, at.block, 1, true, true);
        }
    }

    private void lapse(int c, int number) {
        if (lapsed.get(c) >= number) {
            return;
        }
        lapsed.put(c, number);
        for (List<Active> row : rows) {
            row.removeIf(r -> r.core == c && r.number <= number);
        }
        for (int b = 0; b < 2; b++) {
            Knowledge k = known.get(new Spot(n, b));
            if (k.active != null && k.active.core == c && k.active.number <= number) {
                tell(b, new Knowledge(null, k.serial));
                if (!rows.get(b).isEmpty()) {
                    firstBecomesActive(b);
                }
            }
        }
    }

    private void firstBecomesActive(int b) {
        Active first = rows.get(b).remove(0);
        tell(b, new Knowledge(first, known.get(new Spot(n, b)).serial + 1));
        giveWay(new Spot(n, b));
    }

    private void tell(int b, Knowledge k) {
        for (int c = 0; c < n; c++) {
            send(new Letter("KNOW", n, c, b, null, k.active, k.serial));
        }
        known.put(new Spot(n, b), k);
    }
}
