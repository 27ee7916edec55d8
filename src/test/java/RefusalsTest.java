import java.util.ArrayList;
import java.util.Arrays;
import java.util.List;

/**
 * 'A call that is refused changes nothing.' Each call that can be refused is made with wrong
 * arguments on nets in several states; what all calls answer afterwards, at once and in the ticks
 * that follow, is compared with a net of the same state on which the call was not made.
 *
 * <p>No net is used for more than 512 calls: a state takes at most 31, looking at it now 337, and
 * looking at it later 30 * 8 + 5 + 75 + 45.
 */
public final class RefusalsTest {
    private static final int[] WRONG_ROUTERS = {-1, 5, Integer.MIN_VALUE, Integer.MAX_VALUE};
    private static final int[] WRONG_DIGITS = {-1, 10, Integer.MIN_VALUE, Integer.MAX_VALUE};
    private static final int[] WRONG_ADDRESSES = {-1, 256, Integer.MIN_VALUE, Integer.MAX_VALUE};
    private static final int TICKS_TO_LOOK = 30;

    private interface Call {
        int on(LinkStateNet net);
    }

    private record Refusal(String name, int answer, Call call) {}

    /** A net together with what the test knows of it: the costs of its links and who is on. */
    private static final class Known {
        final LinkStateNet net = new LinkStateNet();
        final int[][] costs = new int[5][5];
        final boolean[] on = {true, true, true, true, true};

        void link(int a, int b, int cost) {
            net.link(a, b, cost);
            costs[a][b] = cost;
            costs[b][a] = cost;
        }

        void power(int r, boolean put) {
            net.power(r, put);
            on[r] = put;
        }

        boolean linked(int a, int b) {
            return isRouter(a) && isRouter(b) && costs[a][b] != 0;
        }

        boolean isOn(int r) {
            return isRouter(r) && on[r];
        }
    }

    private interface State {
        Known build();
    }

    public static void main(String[] args) {
        look("a new net", RefusalsTest::newNet);
        look("a net at rest", RefusalsTest::netAtRest);
        look("a net with losses and one router off", RefusalsTest::netInTrouble);
        look("a net with a router that came back", RefusalsTest::netWithOneThatCameBack);
        Check.end();
    }

    private static boolean isRouter(int r) {
        return r >= 0 && r <= 4;
    }

    private static Known newNet() {
        return new Known();
    }

    private static Known netAtRest() {
        Known known = new Known();
        known.link(0, 1, 1);
        known.link(1, 2, 9);
        known.link(2, 3, 3);
        known.link(3, 0, 4);
        known.net.stub(0, 0, 0, 0, 9);
        known.net.stub(2, 1, 128, 1, 1);
        known.net.stub(3, 0, 192, 2, 5);
        PromisesTest.ticks(known.net, 10);
        return known;
    }

    private static Known netInTrouble() {
        Known known = netAtRest();
        known.link(0, 4, 2);
        known.net.stub(0, 1, 64, 2, 3);
        known.net.stub(1, 1, 32, 3, 3);
        known.net.lose(0, 1, 9);
        known.net.lose(1, 2, 4);
        known.net.lose(2, 1, 1);
        known.net.lose(3, 0, 2);
        PromisesTest.ticks(known.net, 3);
        known.power(3, false);
        known.net.stub(3, 1, 8, 5, 3);
        known.net.stub(2, 0, 16, 4, 3);
        PromisesTest.ticks(known.net, 1);
        return known;
    }

    /** Router 0 has been pressed in the last tick, and will make a description in the one after the next. */
    private static Known netWithOneThatCameBack() {
        Known known = new Known();
        known.link(0, 1, 1);
        known.link(1, 2, 1);
        PromisesTest.ticks(known.net, 4);
        known.net.stub(0, 0, 0, 0, 1);
        PromisesTest.ticks(known.net, 2);
        known.net.stub(0, 0, 0, 0, 2);
        PromisesTest.ticks(known.net, 2);
        known.power(0, false);
        PromisesTest.ticks(known.net, 6);
        known.power(0, true);
        PromisesTest.ticks(known.net, 3);
        known.net.lose(2, 1, 5);
        PromisesTest.ticks(known.net, 1);
        return known;
    }

    private static void look(String name, State state) {
        Check.part(name);
        Known known = state.build();
        int[] now = answersNow(state.build().net);
        int[] later = answersLater(state.build().net);
        List<Refusal> refusals = refusals(known);
        for (Refusal refusal : refusals) {
            LinkStateNet net = state.build().net;
            Check.due(refusal.name, refusal.call.on(net), refusal.answer);
            Check.due("nothing changed now by " + refusal.name, Arrays.equals(answersNow(net), now), true);
            net = state.build().net;
            refusal.call.on(net);
            Check.due("nothing changed later by " + refusal.name, Arrays.equals(answersLater(net), later), true);
        }
        LinkStateNet net = state.build().net;
        for (int i = 0; i < 100; i++) {
            refusals.get(i * refusals.size() / 100).call.on(net);
        }
        Check.due("nothing changed by a hundred of them", Arrays.equals(answersNow(net), now), true);
    }

    private static int[] answersNow(LinkStateNet net) {
        List<Integer> answers = new ArrayList<>();
        for (int a = 0; a < 5; a++) {
            for (int b = 0; b < 5; b++) {
                answers.add(net.neighbour(a, b));
                answers.add(net.number(a, b));
                answers.add(net.age(a, b));
                answers.add(net.owed(a, b));
                answers.add(net.distance(a, b));
                answers.add(net.hop(a, b));
                for (int n = 0; n < 5; n++) {
                    answers.add(net.listed(a, b, n));
                }
            }
            for (int address = 8; address < 256; address += 30) {
                answers.add(net.route(a, address));
            }
            answers.add(net.send(a, 200, 15));
            answers.add(net.send(a, 70, 2));
        }
        for (int kind = 0; kind < 7; kind++) {
            answers.add(net.count(kind));
        }
        return row(answers);
    }

    /** In the midst of it all routers are put on, since of one that is off its stubs cannot be seen. */
    private static int[] answersLater(LinkStateNet net) {
        List<Integer> answers = new ArrayList<>();
        for (int tick = 0; tick < TICKS_TO_LOOK; tick++) {
            for (int r = 0; r < 5 && tick == TICKS_TO_LOOK / 2; r++) {
                answers.add(net.power(r, true) ? 1 : 0);
            }
            net.pass(1);
            for (int kind = 0; kind < 7; kind++) {
                answers.add(net.count(kind));
            }
        }
        for (int a = 0; a < 5; a++) {
            for (int b = 0; b < 5; b++) {
                answers.add(net.number(a, b));
                answers.add(net.age(a, b));
                answers.add(net.distance(a, b));
            }
            for (int address = 8; address < 256; address += 30) {
                answers.add(net.route(a, address));
            }
        }
        return row(answers);
    }

    private static int[] row(List<Integer> answers) {
        return answers.stream().mapToInt(Integer::intValue).toArray();
    }

    private static List<Refusal> refusals(Known known) {
        List<Refusal> list = new ArrayList<>();
        links(list, known);
        stubs(list);
        powers(list, known);
        losses(list, known);
        for (int n : new int[] {0, -1, 5, Integer.MIN_VALUE, Integer.MAX_VALUE}) {
            no(list, "pass(" + n + ")", net -> net.pass(n) ? 1 : 0);
        }
        questionsOfTwo(list, known);
        questionsOfThree(list);
        addressed(list, known);
        for (int kind : new int[] {-1, 7, Integer.MIN_VALUE, Integer.MAX_VALUE}) {
            minusOne(list, "count(" + kind + ")", net -> net.count(kind));
        }
        return list;
    }

    private static void no(List<Refusal> list, String name, Call call) {
        list.add(new Refusal(name, 0, call));
    }

    private static void minusOne(List<Refusal> list, String name, Call call) {
        list.add(new Refusal(name, -1, call));
    }

    private static void links(List<Refusal> list, Known known) {
        for (int a = -1; a <= 5; a++) {
            for (int b = -1; b <= 5; b++) {
                for (int cost = -1; cost <= 10; cost++) {
                    boolean wrong = !isRouter(a) || !isRouter(b) || a == b || cost < 0 || cost > 9;
                    if (wrong || known.costs[a][b] == cost) {
                        link(list, a, b, cost);
                    }
                }
            }
        }
        for (int wrong : WRONG_ROUTERS) {
            link(list, wrong, 0, 1);
            link(list, 0, wrong, 1);
            link(list, wrong, wrong, 1);
        }
        for (int wrong : WRONG_DIGITS) {
            link(list, 0, 1, wrong);
            link(list, 3, 4, wrong);
        }
    }

    private static void link(List<Refusal> list, int a, int b, int cost) {
        no(list, "link(" + a + ", " + b + ", " + cost + ")", net -> net.link(a, b, cost) ? 1 : 0);
    }

    private static void stubs(List<Refusal> list) {
        for (int cost = 0; cost <= 9; cost += 3) {
            for (int wrong : WRONG_ROUTERS) {
                stub(list, wrong, 0, 0, 0, cost);
                stub(list, wrong, 1, 128, 8, cost);
            }
            for (int wrong : new int[] {-1, 2, Integer.MIN_VALUE, Integer.MAX_VALUE}) {
                stub(list, 0, wrong, 0, 0, cost);
                stub(list, 2, wrong, 128, 1, cost);
            }
            for (int wrong : new int[] {-1, 9, -24, 32, 40, Integer.MIN_VALUE, Integer.MAX_VALUE}) {
                stub(list, 0, 0, 0, wrong, cost);
                stub(list, 2, 1, 128, wrong, cost);
            }
            for (int wrong : WRONG_ADDRESSES) {
                stub(list, 0, 0, wrong, 8, cost);
                stub(list, 2, 1, wrong, 0, cost);
            }
            for (int length = 0; length < 8; length++) {
                stub(list, 0, 0, 1 << (7 - length), length, cost);
                stub(list, 2, 1, 255, length, cost);
            }
        }
        for (int wrong : WRONG_DIGITS) {
            stub(list, 0, 0, 0, 0, wrong);
            stub(list, 2, 1, 128, 1, wrong);
            stub(list, 4, 1, 255, 8, wrong);
        }
    }

    private static void stub(List<Refusal> list, int r, int slot, int value, int length, int cost) {
        no(list, "stub(" + r + ", " + slot + ", " + value + ", " + length + ", " + cost + ")",
            net -> net.stub(r, slot, value, length, cost) ? 1 : 0);
    }

    private static void powers(List<Refusal> list, Known known) {
        for (int r = 0; r < 5; r++) {
            power(list, r, known.on[r]);
        }
        for (int wrong : WRONG_ROUTERS) {
            power(list, wrong, true);
            power(list, wrong, false);
        }
    }

    private static void power(List<Refusal> list, int r, boolean on) {
        no(list, "power(" + r + ", " + on + ")", net -> net.power(r, on) ? 1 : 0);
    }

    private static void losses(List<Refusal> list, Known known) {
        for (int a = -1; a <= 5; a++) {
            for (int b = -1; b <= 5; b++) {
                if (known.linked(a, b)) {
                    for (int wrong : WRONG_DIGITS) {
                        lose(list, a, b, wrong);
                    }
                } else {
                    lose(list, a, b, 0);
                    lose(list, a, b, 9);
                }
            }
        }
        for (int wrong : WRONG_ROUTERS) {
            lose(list, 0, wrong, 1);
            lose(list, wrong, 0, 1);
        }
    }

    private static void lose(List<Refusal> list, int a, int b, int n) {
        no(list, "lose(" + a + ", " + b + ", " + n + ")", net -> net.lose(a, b, n) ? 1 : 0);
    }

    private static void questionsOfTwo(List<Refusal> list, Known known) {
        int[] all = {-1, 0, 1, 2, 3, 4, 5, Integer.MIN_VALUE, Integer.MAX_VALUE};
        for (int a : all) {
            for (int b : all) {
                String pair = "(" + a + ", " + b + ")";
                if (!known.linked(a, b)) {
                    minusOne(list, "neighbour" + pair, net -> net.neighbour(a, b));
                    minusOne(list, "owed" + pair, net -> net.owed(a, b));
                }
                if (!isRouter(a) || !isRouter(b)) {
                    minusOne(list, "number" + pair, net -> net.number(a, b));
                    minusOne(list, "age" + pair, net -> net.age(a, b));
                }
                if (!known.isOn(a) || !isRouter(b)) {
                    minusOne(list, "distance" + pair, net -> net.distance(a, b));
                    minusOne(list, "hop" + pair, net -> net.hop(a, b));
                }
            }
        }
    }

    private static void questionsOfThree(List<Refusal> list) {
        for (int wrong : WRONG_ROUTERS) {
            for (int right = 0; right < 5; right++) {
                listed(list, wrong, right, 0);
                listed(list, right, wrong, 0);
                listed(list, right, right, wrong);
            }
            listed(list, wrong, wrong, wrong);
        }
    }

    private static void listed(List<Refusal> list, int r, int x, int n) {
        minusOne(list, "listed(" + r + ", " + x + ", " + n + ")", net -> net.listed(r, x, n));
    }

    private static void addressed(List<Refusal> list, Known known) {
        for (int r = 0; r < 5; r++) {
            if (!known.on[r]) {
                route(list, r, 200);
                send(list, r, 200, 5);
            }
            for (int wrong : WRONG_ADDRESSES) {
                route(list, r, wrong);
                send(list, r, wrong, 5);
            }
            for (int wrong : new int[] {0, 16, -1, Integer.MIN_VALUE, Integer.MAX_VALUE}) {
                send(list, r, 200, wrong);
            }
        }
        for (int wrong : WRONG_ROUTERS) {
            route(list, wrong, 200);
            send(list, wrong, 200, 5);
        }
    }

    private static void route(List<Refusal> list, int r, int address) {
        minusOne(list, "route(" + r + ", " + address + ")", net -> net.route(r, address));
    }

    private static void send(List<Refusal> list, int r, int address, int hops) {
        minusOne(list, "send(" + r + ", " + address + ", " + hops + ")", net -> net.send(r, address, hops));
    }
}
