import java.util.ArrayList;
import java.util.Arrays;
import java.util.HashMap;
import java.util.HashSet;
import java.util.List;
import java.util.Map;
import java.util.Set;
import java.util.TreeMap;

/**
 * The document once more, written for likeness to its sentences and with maps instead of rows, so
 * that a slip in the program is not repeated here. RunsTest compares the two.
 */
final class Model {
    record Prefix(int value, int length, int cost) {}

    record Body(Map<Integer, Integer> costs, List<Prefix> stubs) {}

    record Description(int origin, int number, int birth, Body body) {
        boolean newerThan(Description other) {
            return other == null || number > other.number
                || (number == other.number && birth > other.birth);
        }
    }

    /** A direction of a link: from the first router to the second. */
    record Way(int from, int to) {}

    /** That a router owes another one the description that it holds of an origin. */
    record Debt(int debtor, int creditor, int origin) {}

    record Packet(Way way, List<Description> load) {}

    private static final int NEVER = Integer.MIN_VALUE;

    private final Set<Integer> on = new HashSet<>(List.of(0, 1, 2, 3, 4));
    private final TreeMap<Integer, TreeMap<Integer, Integer>> links = new TreeMap<>();
    private final Map<Way, Integer> losses = new HashMap<>();
    private final Map<Integer, Prefix[]> stubs = new HashMap<>();
    private final Map<Way, Integer> heard = new HashMap<>();
    private final Set<Way> mutual = new HashSet<>();
    private Set<Way> full = new HashSet<>();
    private final Map<Way, Description> held = new HashMap<>();
    private final Map<Debt, Integer> debts = new HashMap<>();
    private final Map<Integer, Integer> latestNumber = new HashMap<>();
    private final Set<Integer> pressed = new HashSet<>();
    private final Map<Integer, Description> latest = new HashMap<>();
    private final int[] counts = new int[7];
    private int clock = 0;

    Model() {
        for (int r = 0; r < 5; r++) {
            links.put(r, new TreeMap<>());
            stubs.put(r, new Prefix[2]);
            latestNumber.put(r, 0);
        }
    }

    private static boolean router(int r) {
        return 0 <= r && r <= 4;
    }

    private boolean linked(int a, int b) {
        return router(a) && links.get(a).containsKey(b);
    }

    boolean link(int a, int b, int cost) {
        if (!router(a) || !router(b) || a == b || cost < 0 || cost > 9) return false;
        if (links.get(a).getOrDefault(b, 0) == cost) return false;
        if (cost > 0) {
            links.get(a).put(b, cost);
            links.get(b).put(a, cost);
            return true;
        }
        links.get(a).remove(b);
        links.get(b).remove(a);
        for (Way way : List.of(new Way(a, b), new Way(b, a))) {
            losses.remove(way);
            forget(way);
        }
        return true;
    }

    private void forget(Way way) {
        heard.remove(way);
        mutual.remove(way);
        full.remove(way);
        debts.keySet().removeIf(d -> d.debtor == way.from && d.creditor == way.to);
    }

    boolean stub(int r, int slot, int value, int length, int cost) {
        if (!router(r) || (slot != 0 && slot != 1) || cost < 0 || cost > 9) return false;
        if (length < 0 || length > 8 || value < 0 || value > 255) return false;
        if (value % (1 << (8 - length)) != 0) return false;
        stubs.get(r)[slot] = cost == 0 ? null : new Prefix(value, length, cost);
        return true;
    }

    boolean power(int r, boolean put) {
        if (!router(r) || on.contains(r) == put) return false;
        if (put) {
            on.add(r);
            return true;
        }
        on.remove(r);
        for (int b = 0; b < 5; b++) {
            forget(new Way(r, b));
            held.remove(new Way(r, b));
        }
        latestNumber.put(r, 0);
        pressed.remove(r);
        latest.remove(r);
        return true;
    }

    boolean lose(int a, int b, int n) {
        if (!linked(a, b) || n < 0 || n > 9) return false;
        losses.put(new Way(a, b), n);
        return true;
    }

    boolean pass(int n) {
        if (n < 1 || n > 4) return false;
        for (int i = 0; i < n; i++) {
            clock++;
            step1();
            if (clock % 2 == 0) step2();
            step3();
            step4();
            step5();
        }
        return true;
    }

    private boolean arrives(Way way) {
        int left = losses.getOrDefault(way, 0);
        if (left > 0) losses.put(way, left - 1);
        boolean lost = left > 0 || !on.contains(way.to);
        if (lost) counts[4]++;
        return !lost;
    }

    private void step1() {
        for (Way key : new ArrayList<>(held.keySet())) {
            if (clock - held.get(key).birth >= 40) {
                held.remove(key);
                debts.keySet().removeIf(d -> d.debtor == key.from && d.origin == key.to);
            }
        }
    }

    private void step2() {
        Set<Way> heardBefore = new HashSet<>(heard.keySet());
        for (int m : on) {
            for (int n : links.get(m).keySet()) {
                counts[0]++;
                if (!arrives(new Way(m, n))) continue;
                heard.put(new Way(n, m), clock);
                if (heardBefore.contains(new Way(m, n))) mutual.add(new Way(n, m));
                else mutual.remove(new Way(n, m));
            }
        }
    }

    private void step3() {
        heard.values().removeIf(time -> time <= clock - 5);
        mutual.retainAll(heard.keySet());
        Set<Way> before = full;
        full = new HashSet<>(mutual);
        debts.keySet().removeIf(d -> !full.contains(new Way(d.debtor, d.creditor)));
        for (Way way : full) {
            if (before.contains(way)) continue;
            oweNews(way);
            Way back = new Way(way.to, way.from);
            if (full.contains(back)) oweNews(back);
        }
    }

    private void oweNews(Way way) {
        for (int x = 0; x < 5; x++) {
            Description mine = held.get(new Way(way.from, x));
            if (mine != null && mine.newerThan(held.get(new Way(way.to, x)))) {
                debts.putIfAbsent(new Debt(way.from, way.to, x), NEVER);
            }
        }
    }

    private Body bodyNow(int r) {
        Map<Integer, Integer> costs = new TreeMap<>(links.get(r));
        costs.keySet().removeIf(n -> !full.contains(new Way(r, n)));
        return new Body(costs, Arrays.asList(stubs.get(r).clone()));
    }

    private void step4() {
        for (int r : on) {
            Description last = latest.get(r);
            boolean make = last == null;
            if (last != null && last.birth <= clock - 2) {
                make = !last.body.equals(bodyNow(r)) || last.birth <= clock - 20 || pressed.contains(r);
            }
            if (!make) continue;
            latestNumber.merge(r, 1, Integer::sum);
            Description made = new Description(r, latestNumber.get(r), clock, bodyNow(r));
            latest.put(r, made);
            pressed.remove(r);
            counts[5]++;
            install(r, made, -1);
        }
    }

    private void install(int r, Description description, int from) {
        held.put(new Way(r, description.origin), description);
        debts.keySet().removeIf(d -> d.debtor == r && d.origin == description.origin);
        for (int n = 0; n < 5; n++) {
            if (full.contains(new Way(r, n)) && n != from) {
                debts.put(new Debt(r, n, description.origin), NEVER);
            }
        }
    }

    private void step5() {
        List<Packet> coming = new ArrayList<>();
        for (int m = 0; m < 5; m++) {
            for (int n = 0; n < 5; n++) {
                List<Description> load = new ArrayList<>();
                for (int x = 0; x < 5; x++) {
                    Integer sent = debts.get(new Debt(m, n, x));
                    if (sent != null && sent <= clock - 3) {
                        load.add(held.get(new Way(m, x)));
                        debts.put(new Debt(m, n, x), clock);
                    }
                }
                if (load.isEmpty()) continue;
                counts[1]++;
                counts[2] += load.size();
                if (arrives(new Way(m, n))) coming.add(new Packet(new Way(m, n), load));
            }
        }
        for (Packet packet : coming) {
            if (full.contains(new Way(packet.way.to, packet.way.from))) deliver(packet);
        }
    }

    private void deliver(Packet packet) {
        int m = packet.way.from;
        int n = packet.way.to;
        List<Description> acked = new ArrayList<>();
        for (Description d : packet.load) {
            Description mine = held.get(new Way(n, d.origin));
            if (d.newerThan(mine) && d.origin == n) {
                latestNumber.merge(n, d.number, Math::max);
                pressed.add(n);
                acked.add(d);
            } else if (d.newerThan(mine)) {
                install(n, d, m);
                counts[6]++;
                acked.add(d);
            } else if (mine.newerThan(d)) {
                debts.putIfAbsent(new Debt(n, m, d.origin), NEVER);
            } else {
                debts.remove(new Debt(n, m, d.origin));
                acked.add(d);
            }
        }
        if (acked.isEmpty()) return;
        counts[3]++;
        if (!arrives(new Way(n, m))) return;
        for (Description d : acked) {
            if (d.equals(held.get(new Way(m, d.origin)))) debts.remove(new Debt(m, n, d.origin));
        }
    }

    int neighbour(int a, int b) {
        if (!linked(a, b)) return -1;
        if (full.contains(new Way(a, b))) return 2;
        return heard.containsKey(new Way(a, b)) ? 1 : 0;
    }

    int number(int r, int x) {
        if (!router(r) || !router(x)) return -1;
        Description d = held.get(new Way(r, x));
        return d == null ? 0 : d.number;
    }

    int age(int r, int x) {
        Description d = held.get(new Way(r, x));
        return d == null ? -1 : clock - d.birth;
    }

    int listed(int r, int x, int n) {
        Description d = held.get(new Way(r, x));
        return d == null || !router(n) ? -1 : d.body.costs.getOrDefault(n, 0);
    }

    int owed(int a, int b) {
        if (!linked(a, b)) return -1;
        return (int) debts.keySet().stream().filter(d -> d.debtor == a && d.creditor == b).count();
    }

    private int edge(int r, int u, int v) {
        int there = listed(r, u, v);
        int back = listed(r, v, u);
        return there > 0 && back > 0 ? there : -1;
    }

    /** The least sum over all paths that come to no router twice; -1 if there is no path. */
    private int least(int r, int u, int v, Set<Integer> been) {
        if (u == v) return 0;
        int best = -1;
        Set<Integer> now = new HashSet<>(been);
        now.add(u);
        for (int w = 0; w < 5; w++) {
            if (now.contains(w) || edge(r, u, w) < 0) continue;
            int rest = least(r, w, v, now);
            if (rest >= 0 && (best < 0 || edge(r, u, w) + rest < best)) best = edge(r, u, w) + rest;
        }
        return best;
    }

    int distance(int r, int v) {
        if (!on.contains(r) || !router(v)) return -1;
        return least(r, r, v, Set.of());
    }

    int hop(int r, int v) {
        int whole = distance(r, v);
        if (whole <= 0) return -1;
        for (int n = 0; n < 5; n++) {
            int rest = least(r, n, v, Set.of());
            if (edge(r, r, n) > 0 && rest >= 0 && edge(r, r, n) + rest == whole) return n;
        }
        return -1;
    }

    int route(int r, int address) {
        if (!on.contains(r) || address < 0 || address > 255) return -1;
        for (int length = 8; length >= 0; length--) {
            TreeMap<Integer, Integer> originsBySum = new TreeMap<>();
            for (int x = 4; x >= 0; x--) {
                if (held.get(new Way(r, x)) == null || distance(r, x) < 0) continue;
                for (Prefix p : held.get(new Way(r, x)).body.stubs) {
                    if (p != null && p.length == length && (p.value ^ address) < 1 << (8 - length)) {
                        originsBySum.put(distance(r, x) + p.cost, x);
                    }
                }
            }
            if (!originsBySum.isEmpty()) return originsBySum.firstEntry().getValue();
        }
        return -1;
    }

    int send(int r, int address, int hops) {
        if (!on.contains(r) || address < 0 || address > 255 || hops < 1 || hops > 15) return -1;
        int destination = route(r, address);
        if (destination < 0) return 300 + r;
        if (destination == r) return 100 + r;
        if (hops == 1) return 200 + r;
        int next = hop(r, destination);
        if (!linked(r, next) || !on.contains(next)) return 400 + r;
        return send(next, address, hops - 1);
    }

    int count(int kind) {
        return 0 <= kind && kind <= 6 ? counts[kind] : -1;
    }
}
