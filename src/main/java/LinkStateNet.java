/**
 * Five routers on links that lose packets: they find their neighbours by hellos, flood numbered
 * descriptions of what they are linked to, and work out routes from the descriptions that they hold.
 *
 * <p>What it must do stands in DOC.md; the steps of a tick bear the numbers that they have there.
 */
public final class LinkStateNet {
    private static final int ROUTERS = 5;
    private static final int SLOTS = 2;
    private static final int ADDRESS_BITS = 8;
    private static final int MAX_ADDRESS = 255;
    private static final int MAX_COST = 9;
    private static final int MAX_LOSSES = 9;
    private static final int MAX_TICKS = 4;
    private static final int MAX_HOPS = 15;

    private static final int TICKS_TO_EXPIRY = 40;
    private static final int TICKS_BETWEEN_HELLOS = 2;
    private static final int TICKS_TO_SILENCE = 5;
    private static final int TICKS_BETWEEN_MAKING = 2;
    private static final int TICKS_TO_REFRESH = 20;
    private static final int TICKS_TO_RESENDING = 3;

    private static final int HELLOS = 0;
    private static final int UPDATES = 1;
    private static final int DESCRIPTIONS_SENT = 2;
    private static final int ACKS = 3;
    private static final int LOST = 4;
    private static final int DESCRIPTIONS_MADE = 5;
    private static final int DESCRIPTIONS_LEARNT = 6;
    private static final int KINDS = 7;

    private static final int DELIVERED = 100;
    private static final int EXCEEDED = 200;
    private static final int UNREACHABLE = 300;
    private static final int GONE = 400;

    private static final int NONE = -1;

    /** Stand in for the time of the last sending, so they are below every time of the clock. */
    private static final int NOT_OWED = -2;
    private static final int NEVER_SENT = -1;

    /** More than any distance (at most four links of cost 9), and small enough to be added up. */
    private static final int FAR = 1000;

    private final Router[] routers;
    private final Update[] updates;
    private final Routes routes;
    private final int[] counts;
    private int clock;

    public LinkStateNet() {
        routers = new Router[ROUTERS];
        for (int r = 0; r < ROUTERS; r++) {
            routers[r] = new Router(r);
        }
        updates = new Update[ROUTERS * ROUTERS];
        for (int i = 0; i < ROUTERS * ROUTERS; i++) {
            updates[i] = new Update();
        }
        routes = new Routes();
        counts = new int[KINDS];
        clock = 0;
    }

    public boolean link(int a, int b, int cost) {
        if (!isRouter(a) || !isRouter(b) || a == b || cost < 0 || cost > MAX_COST) {
            return false;
        }
        if (routers[a].ends[b].cost == cost) {
            return false;
        }
        routers[a].ends[b].setCost(cost);
        routers[b].ends[a].setCost(cost);
        return true;
    }

    public boolean stub(int r, int slot, int value, int length, int cost) {
        if (!isRouter(r) || slot < 0 || slot >= SLOTS || !isPrefix(value, length)) {
            return false;
        }
        if (cost < 0 || cost > MAX_COST) {
            return false;
        }
        routers[r].stubs[slot] = cost == 0 ? null : new Stub(value, length, cost);
        return true;
    }

    public boolean power(int r, boolean on) {
        if (!isRouter(r) || routers[r].on == on) {
            return false;
        }
        routers[r].on = on;
        if (!on) {
            routers[r].forgetAll();
        }
        return true;
    }

    public boolean lose(int a, int b, int n) {
        if (!isLink(a, b) || n < 0 || n > MAX_LOSSES) {
            return false;
        }
        routers[a].ends[b].losses = n;
        return true;
    }

    public boolean pass(int n) {
        if (n < 1 || n > MAX_TICKS) {
            return false;
        }
        for (int i = 0; i < n; i++) {
            tick();
        }
        return true;
    }

    public int neighbour(int a, int b) {
        if (!isLink(a, b)) {
            return NONE;
        }
        LinkEnd end = routers[a].ends[b];
        if (end.full) {
            return 2;
        }
        return end.heard ? 1 : 0;
    }

    public int number(int r, int x) {
        if (!isRouter(r) || !isRouter(x)) {
            return NONE;
        }
        Description held = routers[r].held[x];
        return held == null ? 0 : held.number;
    }

    public int age(int r, int x) {
        if (!isRouter(r) || !isRouter(x)) {
            return NONE;
        }
        Description held = routers[r].held[x];
        return held == null ? NONE : clock - held.birth;
    }

    public int listed(int r, int x, int n) {
        if (!isRouter(r) || !isRouter(x) || !isRouter(n)) {
            return NONE;
        }
        Description held = routers[r].held[x];
        return held == null ? NONE : held.costs[n];
    }

    public int owed(int a, int b) {
        if (!isLink(a, b)) {
            return NONE;
        }
        LinkEnd end = routers[a].ends[b];
        int many = 0;
        for (int x = 0; x < ROUTERS; x++) {
            if (end.sentAt[x] != NOT_OWED) {
                many++;
            }
        }
        return many;
    }

    public int distance(int r, int v) {
        if (!isOn(r) || !isRouter(v)) {
            return NONE;
        }
        routes.workOut(routers[r].held);
        return routes.distances[r][v] == FAR ? NONE : routes.distances[r][v];
    }

    public int hop(int r, int v) {
        if (!isOn(r) || !isRouter(v)) {
            return NONE;
        }
        routes.workOut(routers[r].held);
        return routes.firstHop(r, v);
    }

    public int route(int r, int address) {
        if (!isOn(r) || !isAddress(address)) {
            return NONE;
        }
        routes.workOut(routers[r].held);
        return routes.destination(r, address, routers[r].held);
    }

    public int send(int r, int address, int hops) {
        if (!isOn(r) || !isAddress(address) || hops < 1 || hops > MAX_HOPS) {
            return NONE;
        }
        int u = r;
        for (int left = hops; left >= 1; left--) {
            routes.workOut(routers[u].held);
            int destination = routes.destination(u, address, routers[u].held);
            if (destination == NONE) {
                return UNREACHABLE + u;
            }
            if (destination == u) {
                return DELIVERED + u;
            }
            if (left > 1) {
                int next = routes.firstHop(u, destination);
                if (!isLink(u, next) || !isOn(next)) {
                    return GONE + u;
                }
                u = next;
            }
        }
        return EXCEEDED + u;
    }

    public int count(int kind) {
        return kind < 0 || kind >= KINDS ? NONE : counts[kind];
    }

    private static boolean isRouter(int r) {
        return r >= 0 && r < ROUTERS;
    }

    private static boolean isAddress(int address) {
        return address >= 0 && address <= MAX_ADDRESS;
    }

    private static boolean isPrefix(int value, int length) {
        if (!isAddress(value) || length < 0 || length > ADDRESS_BITS) {
            return false;
        }
        int lowBits = (1 << (ADDRESS_BITS - length)) - 1;
        return (value & lowBits) == 0;
    }

    private boolean isOn(int r) {
        return isRouter(r) && routers[r].on;
    }

    private boolean isLink(int a, int b) {
        return isRouter(a) && isRouter(b) && routers[a].ends[b].cost != 0;
    }

    private void tick() {
        clock++;
        dropExpired();
        if (clock % TICKS_BETWEEN_HELLOS == 0) {
            exchangeHellos();
        }
        judgeNeighbours();
        makeDescriptions();
        sendUpdates();
        deliverUpdates();
    }

    /** Every packet comes through here just once, so that losses fall and are counted once. */
    private boolean arrives(int m, int n) {
        LinkEnd end = routers[m].ends[n];
        if (end.losses > 0) {
            end.losses--;
            counts[LOST]++;
            return false;
        }
        if (!routers[n].on) {
            counts[LOST]++;
            return false;
        }
        return true;
    }

    /** Step 1. */
    private void dropExpired() {
        for (int r = 0; r < ROUTERS; r++) {
            for (int x = 0; x < ROUTERS; x++) {
                Description held = routers[r].held[x];
                if (held != null && held.birth <= clock - TICKS_TO_EXPIRY) {
                    routers[r].drop(x);
                }
            }
        }
    }

    /** Step 2. */
    private void exchangeHellos() {
        for (int m = 0; m < ROUTERS; m++) {
            routers[m].noteWhoIsHeard();
        }
        for (int m = 0; m < ROUTERS; m++) {
            for (int n = 0; n < ROUTERS; n++) {
                if (routers[m].on && isLink(m, n)) {
                    sayHello(m, n);
                }
            }
        }
    }

    private void sayHello(int m, int n) {
        counts[HELLOS]++;
        if (arrives(m, n)) {
            LinkEnd end = routers[n].ends[m];
            end.heard = true;
            end.heardAt = clock;
            end.mutual = routers[m].ends[n].heardBeforeHellos;
        }
    }

    /** Step 3. All are judged first, since what is owed at one end depends on the other end too. */
    private void judgeNeighbours() {
        for (int n = 0; n < ROUTERS; n++) {
            for (int m = 0; m < ROUTERS; m++) {
                routers[n].ends[m].judge(clock);
            }
        }
        for (int n = 0; n < ROUTERS; n++) {
            for (int m = 0; m < ROUTERS; m++) {
                if (routers[n].ends[m].becameFull) {
                    oweWhatLacks(n, m);
                    if (routers[m].ends[n].full) {
                        oweWhatLacks(m, n);
                    }
                }
            }
        }
    }

    private void oweWhatLacks(int n, int m) {
        for (int x = 0; x < ROUTERS; x++) {
            Description own = routers[n].held[x];
            Description other = routers[m].held[x];
            if (own != null && (other == null || own.isNewerThan(other))) {
                routers[n].ends[m].owe(x);
            }
        }
    }

    /** Step 4. */
    private void makeDescriptions() {
        for (int r = 0; r < ROUTERS; r++) {
            if (routers[r].on && routers[r].mustDescribe(clock)) {
                routers[r].describe(clock);
                counts[DESCRIPTIONS_MADE]++;
            }
        }
    }

    /** Step 5, first half: all updates are loaded and under way before the first one arrives. */
    private void sendUpdates() {
        for (int m = 0; m < ROUTERS; m++) {
            for (int n = 0; n < ROUTERS; n++) {
                Update update = updates[m * ROUTERS + n];
                int size = update.load(routers[m].held, routers[m].ends[n].sentAt, clock);
                update.comes = false;
                if (size > 0) {
                    counts[UPDATES]++;
                    counts[DESCRIPTIONS_SENT] += size;
                    update.comes = arrives(m, n);
                }
            }
        }
    }

    /** Step 5, second half. */
    private void deliverUpdates() {
        for (int m = 0; m < ROUTERS; m++) {
            for (int n = 0; n < ROUTERS; n++) {
                Update update = updates[m * ROUTERS + n];
                if (update.comes && routers[n].ends[m].full) {
                    deliver(update, m, n);
                }
            }
        }
    }

    private void deliver(Update update, int m, int n) {
        boolean some = false;
        for (int x = 0; x < ROUTERS; x++) {
            Description given = update.carried[x];
            if (given != null && take(given, m, n)) {
                update.taken[x] = true;
                some = true;
            }
        }
        if (some) {
            acknowledge(update, m, n);
        }
    }

    /** Router n gets a description from m; answers whether n acknowledges it: cases (a) to (c). */
    private boolean take(Description given, int m, int n) {
        Router router = routers[n];
        int x = given.origin;
        Description own = router.held[x];
        if (own == null || given.isNewerThan(own)) {
            if (x == n) {
                router.outdo(given.number);
            } else {
                router.install(given, m);
                counts[DESCRIPTIONS_LEARNT]++;
            }
            return true;
        }
        if (own.isNewerThan(given)) {
            router.ends[m].owe(x);
            return false;
        }
        router.ends[m].sentAt[x] = NOT_OWED;
        return true;
    }

    /** The ack goes back from n to m; by now m may hold a newer one, which it goes on owing. */
    private void acknowledge(Update update, int m, int n) {
        counts[ACKS]++;
        if (!arrives(n, m)) {
            return;
        }
        for (int x = 0; x < ROUTERS; x++) {
            Description held = routers[m].held[x];
            Description given = update.carried[x];
            if (update.taken[x] && held != null && given != null && held.isSameAs(given)) {
                routers[m].ends[n].sentAt[x] = NOT_OWED;
            }
        }
    }

    /** A prefix with a cost. */
    private static final class Stub {
        final int value;
        final int length;
        final int cost;

        Stub(int value, int length, int cost) {
            this.value = value;
            this.length = length;
            this.cost = cost;
        }

        boolean fits(int address) {
            int lowBits = ADDRESS_BITS - length;
            return address >> lowBits == value >> lowBits;
        }

        static boolean alike(Stub a, Stub b) {
            if (a == null || b == null) {
                return a == null && b == null;
            }
            return a.value == b.value && a.length == b.length && a.cost == b.cost;
        }
    }

    /** Never changed once made, so that routers and updates can share it. */
    private static final class Description {
        final int origin;
        final int number;
        final int birth;
        /** The cost with which each router is listed; 0: not listed. */
        final int[] costs;
        final Stub[] stubs;

        Description(int origin, int number, int birth, LinkEnd[] ends, Stub[] stubs) {
            this.origin = origin;
            this.number = number;
            this.birth = birth;
            this.costs = new int[ROUTERS];
            for (int n = 0; n < ROUTERS; n++) {
                this.costs[n] = ends[n].costToList();
            }
            this.stubs = new Stub[SLOTS];
            for (int slot = 0; slot < SLOTS; slot++) {
                this.stubs[slot] = stubs[slot];
            }
        }

        boolean isNewerThan(Description other) {
            return number > other.number || number == other.number && birth > other.birth;
        }

        boolean isSameAs(Description other) {
            return number == other.number && birth == other.birth;
        }
    }

    /** What a router keeps at its end of a link; it stands there without a link too, with cost 0. */
    private static final class LinkEnd {
        int cost;
        /** Of packets from this end to the other. */
        int losses;
        boolean heard;
        boolean heardBeforeHellos;
        int heardAt;
        boolean mutual;
        boolean full;
        boolean becameFull;
        /** By origin: when the description owed was sent last, or NEVER_SENT, or NOT_OWED. */
        final int[] sentAt;

        LinkEnd() {
            sentAt = new int[ROUTERS];
            oweNothing();
        }

        void setCost(int newCost) {
            cost = newCost;
            if (newCost == 0) {
                losses = 0;
                forget();
            }
        }

        void forget() {
            heard = false;
            heardAt = 0;
            mutual = false;
            full = false;
            oweNothing();
        }

        private void oweNothing() {
            for (int x = 0; x < ROUTERS; x++) {
                sentAt[x] = NOT_OWED;
            }
        }

        /** What is owed already stays as it was sent last. */
        void owe(int x) {
            if (sentAt[x] == NOT_OWED) {
                sentAt[x] = NEVER_SENT;
            }
        }

        void judge(int clock) {
            if (heardAt <= clock - TICKS_TO_SILENCE) {
                heard = false;
                mutual = false;
            }
            boolean wasFull = full;
            full = heard && mutual;
            becameFull = full && !wasFull;
            if (!full) {
                oweNothing();
            }
        }

        int costToList() {
            return full ? cost : 0;
        }
    }

    private static final class Router {
        final int id;
        boolean on;
        int latestNumber;
        boolean pressed;
        /** The latest description that it made since it was put on; null: none. */
        Description latest;
        final Stub[] stubs;
        /** By origin; null: none. */
        final Description[] held;
        /** By the router at the other end. */
        final LinkEnd[] ends;

        Router(int id) {
            this.id = id;
            on = true;
            stubs = new Stub[SLOTS];
            held = new Description[ROUTERS];
            ends = new LinkEnd[ROUTERS];
            for (int n = 0; n < ROUTERS; n++) {
                ends[n] = new LinkEnd();
            }
        }

        void forgetAll() {
            latestNumber = 0;
            pressed = false;
            latest = null;
            for (int n = 0; n < ROUTERS; n++) {
                held[n] = null;
                ends[n].forget();
            }
        }

        void drop(int x) {
            held[x] = null;
            for (int n = 0; n < ROUTERS; n++) {
                ends[n].sentAt[x] = NOT_OWED;
            }
        }

        /** Hellos tell what was heard before any of them arrived. */
        void noteWhoIsHeard() {
            for (int n = 0; n < ROUTERS; n++) {
                ends[n].heardBeforeHellos = ends[n].heard;
            }
        }

        boolean mustDescribe(int clock) {
            if (latest == null) {
                return true;
            }
            if (latest.birth > clock - TICKS_BETWEEN_MAKING) {
                return false;
            }
            return pressed || latest.birth <= clock - TICKS_TO_REFRESH || !isStillTrue(latest);
        }

        private boolean isStillTrue(Description description) {
            for (int n = 0; n < ROUTERS; n++) {
                if (description.costs[n] != ends[n].costToList()) {
                    return false;
                }
            }
            for (int slot = 0; slot < SLOTS; slot++) {
                if (!Stub.alike(description.stubs[slot], stubs[slot])) {
                    return false;
                }
            }
            return true;
        }

        void describe(int clock) {
            latestNumber++;
            latest = new Description(id, latestNumber, clock, ends, stubs);
            pressed = false;
            install(latest, id);
        }

        /** What it made itself comes from itself: it is no neighbour of its own, so that spares no one. */
        void install(Description description, int from) {
            int x = description.origin;
            held[x] = description;
            for (int n = 0; n < ROUTERS; n++) {
                ends[n].sentAt[x] = ends[n].full && n != from ? NEVER_SENT : NOT_OWED;
            }
        }

        /** Others hold a description that it made before it was put off: its next one must be newer. */
        void outdo(int number) {
            latestNumber = Math.max(latestNumber, number);
            pressed = true;
        }
    }

    /** An update from one router to another; used again in every tick. */
    private static final class Update {
        boolean comes;
        /** By origin; null: none. */
        final Description[] carried;
        /** By origin: whether the receiver acknowledges it. */
        final boolean[] taken;

        Update() {
            carried = new Description[ROUTERS];
            taken = new boolean[ROUTERS];
        }

        /** Takes up what is owed and due, marks it as sent now, and answers how many these are. */
        int load(Description[] held, int[] sentAt, int clock) {
            int size = 0;
            for (int x = 0; x < ROUTERS; x++) {
                carried[x] = null;
                taken[x] = false;
                if (held[x] != null && isDue(sentAt[x], clock)) {
                    carried[x] = held[x];
                    sentAt[x] = clock;
                    size++;
                }
            }
            return size;
        }

        private static boolean isDue(int sentAt, int clock) {
            if (sentAt == NOT_OWED) {
                return false;
            }
            return sentAt == NEVER_SENT || sentAt <= clock - TICKS_TO_RESENDING;
        }
    }

    /** Least costs by the descriptions that one router holds; worked out anew for every question. */
    private static final class Routes {
        /** The cost of the edge from one router to another; FAR: no edge. */
        final int[][] edges;
        final int[][] distances;

        Routes() {
            edges = new int[ROUTERS][ROUTERS];
            distances = new int[ROUTERS][ROUTERS];
        }

        void workOut(Description[] held) {
            for (int u = 0; u < ROUTERS; u++) {
                for (int v = 0; v < ROUTERS; v++) {
                    edges[u][v] = edge(held[u], held[v], u, v);
                    distances[u][v] = u == v ? 0 : edges[u][v];
                }
            }
            for (int w = 0; w < ROUTERS; w++) {
                shortenThrough(w);
            }
        }

        private static int edge(Description ofU, Description ofV, int u, int v) {
            if (ofU == null || ofV == null || ofU.costs[v] == 0 || ofV.costs[u] == 0) {
                return FAR;
            }
            return ofU.costs[v];
        }

        private void shortenThrough(int w) {
            for (int u = 0; u < ROUTERS; u++) {
                for (int v = 0; v < ROUTERS; v++) {
                    int through = distances[u][w] + distances[w][v];
                    if (through < distances[u][v]) {
                        distances[u][v] = through;
                    }
                }
            }
        }

        int firstHop(int r, int v) {
            if (r == v || distances[r][v] == FAR) {
                return NONE;
            }
            for (int n = 0; n < ROUTERS; n++) {
                if (edges[r][n] + distances[n][v] == distances[r][v]) {
                    return n;
                }
            }
            return NONE;
        }

        int destination(int r, int address, Description[] held) {
            int best = NONE;
            int bestLength = NONE;
            int bestSum = 0;
            for (int x = 0; x < ROUTERS; x++) {
                for (int slot = 0; slot < SLOTS; slot++) {
                    Stub stub = held[x] == null ? null : held[x].stubs[slot];
                    if (stub == null || distances[r][x] == FAR || !stub.fits(address)) {
                        continue;
                    }
                    int sum = distances[r][x] + stub.cost;
                    if (stub.length > bestLength || stub.length == bestLength && sum < bestSum) {
                        best = x;
                        bestLength = stub.length;
                        bestSum = sum;
                    }
                }
            }
            return best;
        }
    }
}
