/** Each promise of the document by ordinary inputs, the edges that it names, and wrong inputs. */
public final class PromisesTest {
    private static final int[] NO_ROUTERS = {-1, 5, Integer.MIN_VALUE, Integer.MAX_VALUE};
    private static final int[] NO_COSTS = {-1, 10, Integer.MIN_VALUE, Integer.MAX_VALUE};
    private static final int[] NO_ADDRESSES = {-1, 256, Integer.MIN_VALUE, Integer.MAX_VALUE};

    public static void main(String[] args) {
        aNewObject();
        link();
        linkThatIsGone();
        linkWithAnotherCost();
        stub();
        stubInTheDescription();
        power();
        powerKeepsStubsAndLosses();
        lose();
        pass();
        neighbour();
        number();
        age();
        listed();
        owed();
        distance();
        distanceByTheCostsOfTheEdges();
        hop();
        route();
        routeAmongReachable();
        send();
        sendRoundInCircles();
        count();
        Check.end();
    }

    static void ticks(LinkStateNet net, int n) {
        for (int i = 0; i < n; i++) {
            net.pass(1);
        }
    }

    /** Routers 0 and 1 on a link; after 4 ticks they are full and hold one another's second description. */
    static LinkStateNet pair(int cost, int ticks) {
        LinkStateNet net = new LinkStateNet();
        net.link(0, 1, cost);
        ticks(net, ticks);
        return net;
    }

    private static void aNewObject() {
        Check.part("promise 1");
        LinkStateNet net = new LinkStateNet();
        for (int a = 0; a < 5; a++) {
            for (int b = 0; b < 5; b++) {
                Check.due("neighbour " + a + " " + b, net.neighbour(a, b), -1);
                Check.due("owed " + a + " " + b, net.owed(a, b), -1);
                Check.due("number " + a + " " + b, net.number(a, b), 0);
                Check.due("age " + a + " " + b, net.age(a, b), -1);
                Check.due("listed " + a + " " + b, net.listed(a, b, 0), -1);
                Check.due("distance " + a + " " + b, net.distance(a, b), a == b ? 0 : -1);
                Check.due("hop " + a + " " + b, net.hop(a, b), -1);
            }
            Check.due("on already " + a, net.power(a, true), false);
            Check.due("route " + a, net.route(a, 0), -1);
            Check.due("send " + a, net.send(a, 0, 15), 300 + a);
        }
        for (int kind = 0; kind < 7; kind++) {
            Check.due("count " + kind, net.count(kind), 0);
        }
        ticks(net, 4);
        Check.due("no stubs", net.route(3, 77), -1);
        Check.due("no hellos without links", net.count(0), 0);
        Check.due("all are on and describe themselves", net.count(5), 5);
        LinkStateNet other = new LinkStateNet();
        Check.due("objects share nothing", other.count(5), 0);
    }

    private static void link() {
        Check.part("promise 2");
        LinkStateNet net = new LinkStateNet();
        for (int wrong : NO_ROUTERS) {
            Check.due("link " + wrong + " 0", net.link(wrong, 0, 1), false);
            Check.due("link 0 " + wrong, net.link(0, wrong, 1), false);
            Check.due("link " + wrong + " twice", net.link(wrong, wrong, 1), false);
        }
        for (int wrong : NO_COSTS) {
            Check.due("cost " + wrong, net.link(0, 1, wrong), false);
        }
        for (int r = 0; r < 5; r++) {
            Check.due("link with itself", net.link(r, r, 1), false);
            Check.due("no link with itself", net.link(r, r, 0), false);
        }
        Check.due("none to remove", net.link(0, 1, 0), false);
        Check.due("refused calls made none", net.neighbour(0, 1), -1);
        Check.due("least cost", net.link(0, 1, 1), true);
        Check.due("both ways", net.neighbour(1, 0), 0);
        Check.due("same cost", net.link(0, 1, 1), false);
        Check.due("same cost, other way", net.link(1, 0, 1), false);
        Check.due("greatest cost", net.link(1, 0, 9), true);
        Check.due("removed", net.link(1, 0, 0), true);
        Check.due("gone at 0", net.neighbour(0, 1), -1);
        Check.due("gone at 1", net.neighbour(1, 0), -1);
        Check.due("removed already", net.link(0, 1, 0), false);
        for (int a = 0; a < 5; a++) {
            for (int b = a + 1; b < 5; b++) {
                Check.due("link " + a + " " + b, net.link(b, a, 4), true);
            }
        }
    }

    private static void linkThatIsGone() {
        Check.part("promise 2, a link that is gone");
        LinkStateNet net = pair(2, 4);
        net.stub(0, 0, 0, 0, 1);
        net.lose(0, 1, 9);
        ticks(net, 2);
        Check.due("owed before", net.owed(0, 1), 1);
        Check.due("full before", net.neighbour(0, 1), 2);
        net.link(0, 1, 0);
        Check.due("owed without a link", net.owed(0, 1), -1);
        net.link(0, 1, 2);
        Check.due("owed after", net.owed(0, 1), 0);
        Check.due("neighbour of 0", net.neighbour(0, 1), 0);
        Check.due("neighbour of 1", net.neighbour(1, 0), 0);
        int lost = net.count(4);
        ticks(net, 2);
        Check.due("a new link has no losses", net.count(4), lost);
        Check.due("heard anew, but not mutual", net.neighbour(1, 0), 1);
        Check.due("heard anew by 0", net.neighbour(0, 1), 1);
    }

    private static void linkWithAnotherCost() {
        Check.part("promise 2, another cost");
        LinkStateNet net = pair(2, 4);
        net.lose(0, 1, 1);
        Check.due("another cost", net.link(1, 0, 5), true);
        Check.due("the neighbour stays at 0", net.neighbour(0, 1), 2);
        Check.due("the neighbour stays at 1", net.neighbour(1, 0), 2);
        Check.due("described not before a tick", net.listed(0, 0, 1), 2);
        ticks(net, 2);
        Check.due("described by 0", net.listed(0, 0, 1), 5);
        Check.due("described by 1", net.listed(0, 1, 0), 5);
        Check.due("the losses stayed", net.count(4), 1);
    }

    private static void stub() {
        Check.part("promise 3");
        LinkStateNet net;
        for (int length = 0; length <= 8; length++) {
            net = new LinkStateNet();
            for (int value = 0; value <= 255; value++) {
                boolean prefix = value % (1 << (8 - length)) == 0;
                Check.due("stub " + value + "/" + length, net.stub(4, 1, value, length, 9), prefix);
                Check.due("no stub " + value + "/" + length, net.stub(4, 1, value, length, 0), prefix);
            }
        }
        net = new LinkStateNet();
        Check.due("a stub", net.stub(0, 0, 128, 1, 3), true);
        for (int wrong : NO_ROUTERS) {
            Check.due("router " + wrong, net.stub(wrong, 0, 128, 1, 0), false);
        }
        for (int wrong : new int[] {-1, 2, Integer.MIN_VALUE, Integer.MAX_VALUE}) {
            Check.due("slot " + wrong, net.stub(0, wrong, 128, 1, 0), false);
        }
        for (int wrong : new int[] {-1, 9, -24, 32, 33, Integer.MIN_VALUE, Integer.MAX_VALUE}) {
            Check.due("length " + wrong, net.stub(0, 0, 0, wrong, 0), false);
        }
        for (int wrong : new int[] {-1, -128, 256, 384, Integer.MIN_VALUE, Integer.MAX_VALUE}) {
            Check.due("value " + wrong, net.stub(0, 0, wrong, 8, 0), false);
            Check.due("value " + wrong + " of length 1", net.stub(0, 0, wrong, 1, 0), false);
        }
        for (int wrong : NO_COSTS) {
            Check.due("cost " + wrong, net.stub(0, 0, 0, 0, wrong), false);
        }
        ticks(net, 1);
        Check.due("refused calls left the stub", net.route(0, 200), 0);
        Check.due("and did not change it", net.route(0, 100), -1);
    }

    private static void stubInTheDescription() {
        Check.part("promise 3, described");
        LinkStateNet net = new LinkStateNet();
        ticks(net, 1);
        int[][] changes = {
            {1, 64, 2, 5}, {1, 64, 2, 6}, {1, 64, 3, 6}, {1, 96, 3, 6}, {0, 96, 3, 6}, {1, 0, 0, 0}, {0, 0, 0, 0}
        };
        for (int i = 0; i < changes.length; i++) {
            int[] c = changes[i];
            Check.due("change " + i, net.stub(2, c[0], c[1], c[2], c[3]), true);
            ticks(net, 2);
            Check.due("described after change " + i, net.number(2, 2), 2 + i);
            Check.due("the same again " + i, net.stub(2, c[0], c[1], c[2], c[3]), true);
            ticks(net, 2);
            Check.due("nothing new after change " + i, net.number(2, 2), 2 + i);
        }
        Check.due("no stub left", net.route(2, 100), -1);
    }

    private static void power() {
        Check.part("promise 4");
        LinkStateNet net = pair(3, 4);
        for (int wrong : NO_ROUTERS) {
            Check.due("off " + wrong, net.power(wrong, false), false);
            Check.due("on " + wrong, net.power(wrong, true), false);
        }
        Check.due("on already", net.power(0, true), false);
        Check.due("a refused call keeps what it holds", net.number(0, 1), 2);
        net.stub(0, 0, 0, 0, 1);
        net.lose(0, 1, 9);
        ticks(net, 2);
        Check.due("owed before", net.owed(0, 1), 1);
        Check.due("number before", net.number(0, 0), 3);
        Check.due("off", net.power(0, false), true);
        Check.due("off already", net.power(0, false), false);
        Check.due("keeps no neighbour", net.neighbour(0, 1), 0);
        Check.due("holds none of its own", net.number(0, 0), 0);
        Check.due("holds none of 1", net.number(0, 1), 0);
        Check.due("owes nothing", net.owed(0, 1), 0);
        Check.due("no routes", net.distance(0, 0), -1);
        Check.due("1 keeps it as a neighbour", net.neighbour(1, 0), 2);
        Check.due("1 holds its description", net.number(1, 0), 2);
        int made = net.count(5);
        ticks(net, 1);
        Check.due("makes no description while off", net.count(5), made);
        Check.due("on", net.power(0, true), true);
        Check.due("has none yet", net.number(0, 0), 0);
        ticks(net, 1);
        Check.due("makes one at once, from number 1", net.number(0, 0), 1);
    }

    private static void powerKeepsStubsAndLosses() {
        Check.part("promise 4, what stays");
        LinkStateNet net = pair(3, 0);
        net.stub(0, 1, 32, 3, 2);
        net.lose(0, 1, 1);
        net.power(0, false);
        net.power(0, true);
        ticks(net, 1);
        Check.due("the stub", net.route(0, 40), 0);
        Check.due("the link", net.neighbour(0, 1), 0);
        ticks(net, 1);
        Check.due("the losses", net.count(4), 1);
        Check.due("hello lost", net.neighbour(1, 0), 0);
        Check.due("hello heard", net.neighbour(0, 1), 1);
    }

    private static void lose() {
        Check.part("promise 5");
        LinkStateNet net = pair(1, 0);
        for (int wrong : NO_ROUTERS) {
            Check.due("from " + wrong, net.lose(wrong, 0, 1), false);
            Check.due("to " + wrong, net.lose(0, wrong, 1), false);
        }
        for (int wrong : NO_COSTS) {
            Check.due("losses " + wrong, net.lose(0, 1, wrong), false);
        }
        Check.due("no link", net.lose(0, 2, 1), false);
        Check.due("no link with itself", net.lose(0, 0, 1), false);
        ticks(net, 2);
        Check.due("refused calls lose nothing", net.count(4), 0);
        Check.due("nine", net.lose(0, 1, 9), true);
        Check.due("the same again", net.lose(0, 1, 9), true);
        Check.due("two instead", net.lose(0, 1, 2), true);
        ticks(net, 2);
        Check.due("a hello and an update are lost in one direction", net.count(4), 2);
        Check.due("so 0 is not mutual to 1", net.neighbour(1, 0), 1);
        Check.due("the other direction loses nothing", net.neighbour(0, 1), 2);
        ticks(net, 8);
        Check.due("two are lost and no more", net.count(4), 2);
        Check.due("none instead", net.lose(1, 0, 5) && net.lose(1, 0, 0), true);
        ticks(net, 2);
        Check.due("so none is lost", net.count(4), 2);
    }

    private static void pass() {
        Check.part("promise 6");
        LinkStateNet net = new LinkStateNet();
        for (int wrong : new int[] {0, 5, -1, Integer.MIN_VALUE, Integer.MAX_VALUE}) {
            Check.due("pass " + wrong, net.pass(wrong), false);
        }
        Check.due("no tick passed", net.number(0, 0), 0);
        int age = 0;
        net.pass(1);
        for (int n = 1; n <= 4; n++) {
            Check.due("pass " + n, net.pass(n), true);
            age += n;
            Check.due("ticks of pass " + n, net.age(0, 0), age);
        }
        net.pass(5);
        Check.due("a refused pass passes nothing", net.age(0, 0), age);
    }

    private static void neighbour() {
        Check.part("promise 7");
        LinkStateNet net = pair(1, 1);
        for (int wrong : NO_ROUTERS) {
            Check.due("of " + wrong, net.neighbour(wrong, 0), -1);
            Check.due("to " + wrong, net.neighbour(0, wrong), -1);
        }
        Check.due("itself", net.neighbour(0, 0), -1);
        Check.due("no link", net.neighbour(0, 2), -1);
        Check.due("not heard", net.neighbour(0, 1), 0);
        ticks(net, 1);
        Check.due("heard", net.neighbour(0, 1), 1);
        Check.due("heard by the later one too", net.neighbour(1, 0), 1);
        ticks(net, 1);
        Check.due("no hellos at odd times", net.neighbour(0, 1), 1);
        ticks(net, 1);
        Check.due("full", net.neighbour(0, 1), 2);
        Check.due("full to both", net.neighbour(1, 0), 2);
    }

    private static void number() {
        Check.part("promise 8");
        LinkStateNet net = pair(1, 4);
        for (int wrong : NO_ROUTERS) {
            Check.due("router " + wrong, net.number(wrong, 0), -1);
            Check.due("origin " + wrong, net.number(0, wrong), -1);
        }
        Check.due("its own", net.number(0, 0), 2);
        Check.due("its neighbour's", net.number(0, 1), 2);
        Check.due("none", net.number(0, 2), 0);
        Check.due("one without links", net.number(2, 2), 1);
        net.power(0, false);
        Check.due("off", net.number(0, 0), 0);
    }

    private static void age() {
        Check.part("promise 9");
        LinkStateNet net = pair(1, 4);
        for (int wrong : NO_ROUTERS) {
            Check.due("router " + wrong, net.age(wrong, 0), -1);
            Check.due("origin " + wrong, net.age(0, wrong), -1);
        }
        Check.due("new", net.age(0, 1), 0);
        Check.due("of the first tick", net.age(2, 2), 3);
        Check.due("none", net.age(0, 2), -1);
        ticks(net, 3);
        Check.due("older", net.age(0, 1), 3);
    }

    private static void listed() {
        Check.part("promise 10");
        LinkStateNet net = pair(7, 3);
        Check.due("heard alone is not listed", net.listed(0, 0, 1), 0);
        ticks(net, 1);
        for (int wrong : NO_ROUTERS) {
            Check.due("router " + wrong, net.listed(wrong, 0, 1), -1);
            Check.due("origin " + wrong, net.listed(0, wrong, 1), -1);
            Check.due("listed " + wrong, net.listed(0, 0, wrong), -1);
        }
        Check.due("in its own", net.listed(0, 0, 1), 7);
        Check.due("in the neighbour's", net.listed(0, 1, 0), 7);
        Check.due("itself", net.listed(0, 0, 0), 0);
        Check.due("not listed", net.listed(0, 1, 2), 0);
        Check.due("holds none", net.listed(0, 2, 0), -1);
    }

    private static void owed() {
        Check.part("promise 11");
        LinkStateNet net = pair(1, 0);
        Check.due("nothing at first", net.owed(0, 1), 0);
        ticks(net, 4);
        for (int wrong : NO_ROUTERS) {
            Check.due("debtor " + wrong, net.owed(wrong, 0), -1);
            Check.due("creditor " + wrong, net.owed(0, wrong), -1);
        }
        Check.due("itself", net.owed(0, 0), -1);
        Check.due("no link", net.owed(0, 2), -1);
        Check.due("acknowledged", net.owed(0, 1), 0);
        net.stub(0, 0, 0, 0, 1);
        net.lose(0, 1, 9);
        ticks(net, 1);
        Check.due("not described yet", net.owed(0, 1), 0);
        ticks(net, 1);
        Check.due("lost, so still owed", net.owed(0, 1), 1);
        Check.due("not the other way", net.owed(1, 0), 0);
        ticks(net, 3);
        Check.due("0 is silent to 1", net.neighbour(1, 0), 0);
        Check.due("but 1 is full to 0, and owed", net.owed(0, 1), 1);
        ticks(net, 1);
        Check.due("1 says that it does not hear 0", net.neighbour(0, 1), 1);
        Check.due("not full, so not owed", net.owed(0, 1), 0);
    }

    private static void distance() {
        Check.part("promise 12");
        LinkStateNet net = new LinkStateNet();
        net.link(0, 1, 2);
        net.link(1, 2, 3);
        net.link(0, 2, 9);
        net.link(2, 3, 4);
        ticks(net, 10);
        for (int wrong : NO_ROUTERS) {
            Check.due("from " + wrong, net.distance(wrong, 0), -1);
            Check.due("to " + wrong, net.distance(0, wrong), -1);
        }
        Check.due("itself", net.distance(0, 0), 0);
        Check.due("one link", net.distance(0, 1), 2);
        Check.due("two links are less than one", net.distance(0, 2), 5);
        Check.due("three links", net.distance(0, 3), 9);
        Check.due("back", net.distance(3, 0), 9);
        Check.due("none", net.distance(0, 4), -1);
        net.link(0, 1, 0);
        Check.due("by what it holds, not by the links", net.distance(0, 1), 2);
        net.power(0, false);
        Check.due("off", net.distance(0, 0), -1);
        Check.due("to one that is off", net.distance(3, 0), 9);
    }

    /** Router 0 gets the new description of 2, but that of 1 is lost at first. */
    private static void distanceByTheCostsOfTheEdges() {
        Check.part("promise 12, edges");
        LinkStateNet net = new LinkStateNet();
        net.link(0, 1, 1);
        net.link(1, 2, 2);
        ticks(net, 10);
        net.link(1, 2, 8);
        net.lose(1, 0, 1);
        ticks(net, 2);
        Check.due("2 lists 1 with the new cost", net.listed(0, 2, 1), 8);
        Check.due("1 lists 2 with the old cost", net.listed(0, 1, 2), 2);
        Check.due("the cost is the one of the end where the edge begins", net.distance(0, 2), 3);
        ticks(net, 2);
        Check.due("1 sends it again", net.distance(0, 2), 9);
        net.link(1, 2, 0);
        net.lose(1, 0, 9);
        ticks(net, 1);
        Check.due("at 1 there is no edge", net.distance(1, 2), -1);
        Check.due("2 is still listed by 1", net.listed(0, 1, 2), 8);
        Check.due("and 1 by 2", net.listed(0, 2, 1), 8);
        Check.due("so there is a distance", net.distance(0, 2), 9);
        net = pair(4, 4);
        net.lose(1, 0, 1);
        net.power(1, false);
        ticks(net, 5);
        Check.due("0 does not list 1", net.listed(0, 0, 1), 0);
        Check.due("1 lists 0", net.listed(0, 1, 0), 4);
        Check.due("an edge needs both", net.distance(0, 1), -1);
    }

    private static void hop() {
        Check.part("promise 13");
        LinkStateNet net = new LinkStateNet();
        net.link(4, 3, 1);
        net.link(3, 0, 2);
        net.link(4, 1, 2);
        net.link(1, 0, 1);
        net.link(4, 0, 4);
        ticks(net, 10);
        for (int wrong : NO_ROUTERS) {
            Check.due("from " + wrong, net.hop(wrong, 0), -1);
            Check.due("to " + wrong, net.hop(0, wrong), -1);
        }
        Check.due("itself", net.hop(4, 4), -1);
        Check.due("none", net.hop(4, 2), -1);
        Check.due("from one alone", net.hop(2, 4), -1);
        Check.due("the lowest of two as good", net.hop(4, 0), 1);
        Check.due("back", net.hop(0, 4), 1);
        Check.due("a neighbour", net.hop(4, 3), 3);
        net.link(4, 3, 9);
        ticks(net, 6);
        Check.due("round about", net.hop(4, 3), 1);
        net.link(4, 0, 1);
        ticks(net, 6);
        Check.due("the link itself, now that it costs less", net.hop(4, 0), 0);
        net.power(4, false);
        Check.due("off", net.hop(4, 0), -1);
    }

    private static void route() {
        Check.part("promise 14");
        LinkStateNet net = new LinkStateNet();
        net.link(0, 1, 1);
        net.link(0, 2, 3);
        net.link(0, 3, 2);
        net.stub(1, 0, 0, 0, 9);
        net.stub(1, 1, 160, 4, 9);
        net.stub(2, 0, 160, 3, 1);
        net.stub(2, 1, 165, 8, 9);
        net.stub(3, 0, 160, 4, 8);
        net.stub(3, 1, 64, 2, 1);
        net.stub(0, 0, 64, 2, 4);
        Check.due("not before it is described", net.route(1, 3), -1);
        ticks(net, 10);
        for (int wrong : NO_ROUTERS) {
            Check.due("router " + wrong, net.route(wrong, 0), -1);
        }
        for (int wrong : NO_ADDRESSES) {
            Check.due("address " + wrong, net.route(0, wrong), -1);
        }
        Check.due("length 0 fits the least address", net.route(0, 0), 1);
        Check.due("length 0 fits the greatest address", net.route(0, 255), 1);
        Check.due("length 8 fits itself", net.route(0, 165), 2);
        Check.due("but not the next; 1 and 3 are as far", net.route(0, 166), 1);
        Check.due("nor the one before", net.route(0, 164), 1);
        Check.due("last of length 4", net.route(0, 175), 1);
        Check.due("longer counts more than nearer", net.route(2, 170), 1);
        Check.due("only length 3 fits", net.route(0, 176), 2);
        Check.due("last of length 3", net.route(0, 191), 2);
        Check.due("after length 3", net.route(0, 192), 1);
        Check.due("the distance counts with the cost", net.route(0, 64), 3);
        Check.due("for 3 itself", net.route(3, 127), 3);
        Check.due("for 1 it is 3 too", net.route(1, 100), 3);
        Check.due("for one alone", net.route(4, 100), -1);
        net.stub(3, 0, 160, 4, 7);
        ticks(net, 4);
        Check.due("3 is nearer now", net.route(0, 166), 3);
        net.power(0, false);
        Check.due("off", net.route(0, 64), -1);
    }

    private static void routeAmongReachable() {
        Check.part("promise 14, reachable");
        LinkStateNet net = new LinkStateNet();
        net.link(0, 1, 1);
        net.link(0, 2, 1);
        net.stub(1, 0, 96, 3, 1);
        net.stub(2, 1, 64, 2, 1);
        ticks(net, 8);
        Check.due("the longer", net.route(0, 100), 1);
        net.power(1, false);
        ticks(net, 6);
        Check.due("its description is still held", net.number(0, 1) > 0, true);
        Check.due("but has no distance", net.distance(0, 1), -1);
        Check.due("so it does not count", net.route(0, 100), 2);
    }

    private static void send() {
        Check.part("promise 15");
        LinkStateNet net = new LinkStateNet();
        net.link(0, 1, 1);
        net.link(1, 2, 1);
        net.link(2, 3, 1);
        net.stub(3, 0, 128, 1, 1);
        net.stub(0, 0, 1, 8, 1);
        ticks(net, 12);
        for (int wrong : NO_ROUTERS) {
            Check.due("router " + wrong, net.send(wrong, 200, 9), -1);
        }
        for (int wrong : NO_ADDRESSES) {
            Check.due("address " + wrong, net.send(0, wrong, 9), -1);
        }
        for (int wrong : new int[] {0, 16, -1, Integer.MIN_VALUE, Integer.MAX_VALUE}) {
            Check.due("hops " + wrong, net.send(0, 200, wrong), -1);
        }
        Check.due("delivered", net.send(0, 200, 15), 103);
        Check.due("just enough hops", net.send(0, 200, 4), 103);
        Check.due("one too few", net.send(0, 200, 3), 202);
        Check.due("two", net.send(0, 200, 2), 201);
        Check.due("one", net.send(0, 200, 1), 200);
        Check.due("at home with one hop", net.send(3, 200, 1), 103);
        Check.due("unreachable with one hop", net.send(2, 100, 1), 302);
        Check.due("the other way", net.send(3, 1, 4), 100);
        Check.due("from one alone", net.send(4, 200, 5), 304);
        net.lose(0, 1, 9);
        net.lose(1, 2, 9);
        Check.due("losses do not matter", net.send(0, 200, 4), 103);
        net.link(2, 3, 0);
        Check.due("no link any more", net.send(0, 200, 4), 402);
        Check.due("gone after exceeded", net.send(0, 200, 3), 202);
        net.power(1, false);
        Check.due("the next is off", net.send(0, 200, 2), 400);
        Check.due("but one hop is exceeded first", net.send(0, 200, 1), 200);
        Check.due("from one that is off", net.send(1, 200, 9), -1);
        Check.due("to itself past one that is off", net.send(0, 1, 9), 100);
    }

    /** Router 1 knows that the link to 2 is gone and sends by 0; router 0 does not, and sends by 1. */
    private static void sendRoundInCircles() {
        Check.part("promise 15, circles");
        LinkStateNet net = new LinkStateNet();
        net.link(0, 1, 1);
        net.link(1, 2, 1);
        net.link(0, 2, 9);
        net.stub(2, 0, 0, 0, 1);
        ticks(net, 10);
        net.link(1, 2, 0);
        net.lose(1, 0, 1);
        net.lose(2, 0, 1);
        ticks(net, 1);
        Check.due("0 sends by 1", net.hop(0, 2), 1);
        Check.due("1 sends by 0", net.hop(1, 2), 0);
        Check.due("odd hops end at 0", net.send(0, 7, 15), 200);
        Check.due("even hops end at 1", net.send(0, 7, 14), 201);
        ticks(net, 4);
        Check.due("then 0 learns of it", net.send(1, 7, 3), 102);
    }

    private static void count() {
        Check.part("promise 16");
        LinkStateNet net = pair(1, 4);
        for (int wrong : new int[] {-1, 7, Integer.MIN_VALUE, Integer.MAX_VALUE}) {
            Check.due("kind " + wrong, net.count(wrong), -1);
        }
        int[] afterFour = {4, 2, 2, 2, 0, 7, 2};
        for (int kind = 0; kind < 7; kind++) {
            Check.due("after 4 ticks, kind " + kind, net.count(kind), afterFour[kind]);
        }
        net.power(1, false);
        ticks(net, 2);
        Check.due("no hello from one that is off", net.count(0), 5);
        Check.due("lost at one that is off", net.count(4), 1);
        Check.due("descriptions made", net.count(5), 7);
        net.lose(0, 1, 5);
        ticks(net, 2);
        Check.due("lost once, though it is off too", net.count(4), 2);
    }
}
