import java.util.Random;

/** Long runs of calls, wrong ones among them, that the program and the model must answer alike. */
public final class RunsTest {
    private static final int RUNS = 1500;
    private static final int CALLS = 512;

    private final Random random;
    private final LinkStateNet net = new LinkStateNet();
    private final Model model = new Model();
    /** In so many calls of a thousand something is changed; the fewer, the calmer the net. */
    private final int changes;
    private final int passes;

    private RunsTest(int seed) {
        random = new Random(seed);
        int[] kindsOfWeather = {20, 60, 120, 250};
        changes = kindsOfWeather[seed % kindsOfWeather.length];
        passes = changes + 200 + 100 * (seed % 3);
    }

    public static void main(String[] args) {
        for (int seed = 0; seed < RUNS; seed++) {
            Check.part("run of seed " + seed);
            new RunsTest(seed).play();
        }
        Check.end();
    }

    private void play() {
        int built = 4 + random.nextInt(12);
        for (int i = 0; i < built; i++) {
            build();
        }
        for (int i = built; i < CALLS; i++) {
            int dice = random.nextInt(1000);
            if (dice < changes) {
                change();
            } else if (dice < passes) {
                pass();
            } else {
                ask();
            }
        }
    }

    /** Nearly always a router. */
    private int router() {
        return random.nextInt(60) == 0 ? random.nextInt(2) * 6 - 1 : random.nextInt(5);
    }

    private int about(int low, int high) {
        return random.nextInt(40) == 0 ? (random.nextBoolean() ? low - 1 : high + 1)
            : low + random.nextInt(high - low + 1);
    }

    private void build() {
        if (random.nextInt(4) == 0) {
            stub();
        } else {
            link(router(), router(), about(1, 9));
        }
    }

    private void link(int a, int b, int cost) {
        Check.due("link(" + a + ", " + b + ", " + cost + ")", net.link(a, b, cost), model.link(a, b, cost));
    }

    private void stub() {
        int r = router();
        int slot = about(0, 1);
        int length = about(0, 8);
        int low = length >= 0 && length <= 8 ? (1 << (8 - length)) - 1 : 0;
        int value = random.nextInt(20) == 0 ? about(0, 255) : random.nextInt(256) & ~low;
        int cost = about(0, 9);
        Check.due("stub(" + r + ", " + slot + ", " + value + ", " + length + ", " + cost + ")",
            net.stub(r, slot, value, length, cost), model.stub(r, slot, value, length, cost));
    }

    private void change() {
        int a = router();
        int b = router();
        switch (random.nextInt(6)) {
            case 0:
                link(a, b, random.nextInt(3) == 0 ? 0 : about(0, 9));
                break;
            case 1:
                stub();
                break;
            case 2:
                boolean on = random.nextInt(5) > 1;
                Check.due("power(" + a + ", " + on + ")", net.power(a, on), model.power(a, on));
                break;
            default:
                int n = random.nextInt(3) == 0 ? about(0, 9) : random.nextInt(3);
                Check.due("lose(" + a + ", " + b + ", " + n + ")", net.lose(a, b, n), model.lose(a, b, n));
        }
    }

    private void pass() {
        int n = about(1, 4);
        Check.due("pass(" + n + ")", net.pass(n), model.pass(n));
    }

    private void ask() {
        int a = router();
        int b = router();
        int c = router();
        int address = about(0, 255);
        int hops = about(1, 15);
        int kind = about(0, 6);
        switch (random.nextInt(10)) {
            case 0: Check.due("neighbour(" + a + ", " + b + ")", net.neighbour(a, b), model.neighbour(a, b)); break;
            case 1: Check.due("number(" + a + ", " + b + ")", net.number(a, b), model.number(a, b)); break;
            case 2: Check.due("age(" + a + ", " + b + ")", net.age(a, b), model.age(a, b)); break;
            case 3: Check.due("listed(" + a + ", " + b + ", " + c + ")", net.listed(a, b, c), model.listed(a, b, c)); break;
            case 4: Check.due("owed(" + a + ", " + b + ")", net.owed(a, b), model.owed(a, b)); break;
            case 5: Check.due("distance(" + a + ", " + b + ")", net.distance(a, b), model.distance(a, b)); break;
            case 6: Check.due("hop(" + a + ", " + b + ")", net.hop(a, b), model.hop(a, b)); break;
            case 7: Check.due("route(" + a + ", " + address + ")", net.route(a, address), model.route(a, address)); break;
            case 8: Check.due("send(" + a + ", " + address + ", " + hops + ")", net.send(a, address, hops), model.send(a, address, hops)); break;
            default: Check.due("count(" + kind + ")", net.count(kind), model.count(kind));
        }
    }
}
