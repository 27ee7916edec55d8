/**
 * The sentences of the promises' own sections that name a boundary case: a test for each, at the
 * boundary and just beyond it. That a refused call changes nothing is RefusalsTest's part.
 */
public final class BoundariesTest {
    public static void main(String[] args) {
        linkWithItself();
        linkWithTheCostThatItHas();
        linkThatThereIsNot();
        linkGoneAtBothEnds();
        linkGoneLeavesTheOthers();
        stubWithNoCost();
        stubCostJustBeyond();
        powerThatIsSoAlready();
        powerOffKeepsNothing();
        powerOffIsNoMorePressed();
        powerOffHasMadeNone();
        powerOffKeepsStubsAndLinks();
        powerOffLeavesTheOthers();
        loseWithoutLink();
        loseFromNoneToNine();
        passFromOneToFour();
        neighbourFromNoneToFull();
        neighbourOfOneThatIsOff();
        numberFromNoneOn();
        ageFromNewToGone();
        listedFromNotToNine();
        owedWithoutLink();
        distanceFromOneThatIsOff();
        hopThatThereIsNot();
        routeThatThereIsNot();
        sendHopsFromOneToFifteen();
        sendEndsAtEachRouter();
        sendLooksAtHopsLast();
        sendGone();
        countOfHellos();
        countOfUpdates();
        countOfAcks();
        countOfLost();
        countOfMade();
        countOfInstalled();
        countOfAnotherKind();
        Check.end();
    }

    private static void ticks(LinkStateNet net, int n) {
        PromisesTest.ticks(net, n);
    }

    /** Routers 0 .. 4 in a row, each link with the cost 1; after 8 ticks all know of all. */
    private static LinkStateNet row(int ticks) {
        LinkStateNet net = new LinkStateNet();
        for (int r = 0; r < 4; r++) {
            net.link(r, r + 1, 1);
        }
        ticks(net, ticks);
        return net;
    }

    private static void linkWithItself() {
        Check.part("promise 2, a = b");
        LinkStateNet net = new LinkStateNet();
        for (int r = 0; r < 5; r++) {
            for (int cost = -1; cost <= 10; cost++) {
                Check.due("link " + r + " " + r + " " + cost, net.link(r, r, cost), false);
            }
            Check.due("so no link", net.neighbour(r, r), -1);
        }
    }

    private static void linkWithTheCostThatItHas() {
        Check.part("promise 2, that cost already");
        LinkStateNet net = new LinkStateNet();
        for (int cost = 1; cost <= 9; cost++) {
            Check.due("another cost " + cost, net.link(0, 1, cost), true);
            Check.due("that cost already " + cost, net.link(0, 1, cost), false);
            Check.due("the other way " + cost, net.link(1, 0, cost), false);
        }
        Check.due("one less", net.link(1, 0, 8), true);
        Check.due("the same of another link", net.link(1, 2, 8), true);
    }

    private static void linkThatThereIsNot() {
        Check.part("promise 2, for 0 there is none");
        LinkStateNet net = new LinkStateNet();
        net.link(0, 1, 1);
        Check.due("none", net.link(0, 2, 0), false);
        Check.due("one", net.link(1, 0, 0), true);
        Check.due("none any more", net.link(0, 1, 0), false);
        Check.due("lose is refused", net.lose(0, 1, 0), false);
        Check.due("one again", net.link(0, 1, 1), true);
    }

    /** Both ends owe one another their new descriptions, since all is lost. */
    private static void linkGoneAtBothEnds() {
        Check.part("promise 2, what both ends kept and owed is gone");
        LinkStateNet net = PromisesTest.pair(1, 4);
        net.stub(0, 0, 0, 0, 1);
        net.stub(1, 0, 0, 0, 1);
        net.lose(0, 1, 9);
        net.lose(1, 0, 9);
        ticks(net, 2);
        Check.due("0 owes", net.owed(0, 1), 1);
        Check.due("1 owes", net.owed(1, 0), 1);
        net.link(0, 1, 0);
        net.link(0, 1, 1);
        Check.due("0 does not owe", net.owed(0, 1), 0);
        Check.due("1 does not owe", net.owed(1, 0), 0);
        Check.due("0 keeps nothing of 1", net.neighbour(0, 1), 0);
        Check.due("1 keeps nothing of 0", net.neighbour(1, 0), 0);
        int updates = net.count(1);
        ticks(net, 2);
        Check.due("8: hellos say that none is heard", net.neighbour(0, 1) + net.neighbour(1, 0), 2);
        Check.due("8: nothing is sent", net.count(1), updates);
        Check.due("8: what is held stays", net.number(0, 1), 2);
        ticks(net, 2);
        Check.due("10: full again", net.neighbour(0, 1) + net.neighbour(1, 0), 4);
    }

    private static void linkGoneLeavesTheOthers() {
        Check.part("promise 2, what is kept over other links stays");
        LinkStateNet net = new LinkStateNet();
        net.link(0, 1, 1);
        net.link(0, 2, 1);
        ticks(net, 6);
        net.stub(0, 0, 0, 0, 1);
        net.lose(0, 2, 2);
        ticks(net, 1);
        Check.due("owed to 2", net.owed(0, 2), 1);
        net.link(0, 1, 0);
        Check.due("still owed to 2", net.owed(0, 2), 1);
        Check.due("2 is full to 0", net.neighbour(0, 2), 2);
        Check.due("0 is full to 2", net.neighbour(2, 0), 2);
        ticks(net, 1);
        Check.due("the losses stay: a hello and an update", net.count(4), 2);
        ticks(net, 1);
        Check.due("9: 0 describes the change", net.listed(2, 0, 1), 0);
    }

    private static void stubWithNoCost() {
        Check.part("promise 3, with the cost 0 none there any more");
        LinkStateNet net = new LinkStateNet();
        Check.due("none there before", net.stub(0, 0, 8, 5, 0), true);
        net.stub(0, 0, 8, 5, 1);
        net.stub(0, 1, 16, 5, 1);
        ticks(net, 1);
        Check.due("slot 0", net.route(0, 8), 0);
        Check.due("the prefix need not be the same", net.stub(0, 0, 255, 8, 0), true);
        ticks(net, 2);
        Check.due("none in slot 0", net.route(0, 8), -1);
        Check.due("nor with the cost 0", net.route(0, 255), -1);
        Check.due("slot 1 stays", net.route(0, 16), 0);
        Check.due("no prefix is refused", net.stub(0, 1, 255, 7, 0), false);
        ticks(net, 2);
        Check.due("so slot 1 stays again", net.route(0, 16), 0);
    }

    private static void stubCostJustBeyond() {
        Check.part("promise 3, the cost is not 0 .. 9");
        LinkStateNet net = new LinkStateNet();
        Check.due("-1", net.stub(1, 0, 0, 0, -1), false);
        Check.due("10", net.stub(1, 0, 0, 0, 10), false);
        ticks(net, 1);
        Check.due("so none", net.route(1, 0), -1);
        Check.due("1", net.stub(1, 0, 0, 0, 1), true);
        Check.due("9", net.stub(1, 1, 0, 0, 9), true);
        Check.due("0", net.stub(1, 0, 0, 0, 0), true);
        ticks(net, 2);
        Check.due("that of cost 9", net.route(1, 0), 1);
    }

    private static void powerThatIsSoAlready() {
        Check.part("promise 4, it is so already");
        LinkStateNet net = new LinkStateNet();
        for (int r = 0; r < 5; r++) {
            Check.due("on at first " + r, net.power(r, true), false);
            Check.due("put off " + r, net.power(r, false), true);
            Check.due("off already " + r, net.power(r, false), false);
            Check.due("put on " + r, net.power(r, true), true);
            Check.due("on already " + r, net.power(r, true), false);
        }
    }

    private static void powerOffKeepsNothing() {
        Check.part("promise 4, keeps, holds and owes nothing");
        LinkStateNet net = row(10);
        net.stub(1, 0, 0, 0, 1);
        net.lose(1, 0, 1);
        ticks(net, 1);
        Check.due("owes 0", net.owed(1, 0), 1);
        net.power(1, false);
        Check.due("owes 0 nothing", net.owed(1, 0), 0);
        Check.due("owes 2 nothing", net.owed(1, 2), 0);
        Check.due("keeps nothing of 0", net.neighbour(1, 0), 0);
        Check.due("keeps nothing of 2", net.neighbour(1, 2), 0);
        for (int x = 0; x < 5; x++) {
            Check.due("number of " + x, net.number(1, x), 0);
            Check.due("age of " + x, net.age(1, x), -1);
            Check.due("listed by " + x, net.listed(1, x, 0), -1);
            Check.due("distance to " + x, net.distance(1, x), -1);
        }
        net.power(1, true);
        Check.due("nor when it is on again", net.number(1, 0), 0);
        Check.due("it has a distance to itself", net.distance(1, 1), 0);
        Check.due("and no other", net.distance(1, 0), -1);
    }

    /** Router 0 came back in tick 15, and 1 pressed it in tick 18 by its number 4 from before. */
    private static void powerOffIsNoMorePressed() {
        Check.part("promise 4, its latest number is 0, it is not pressed");
        LinkStateNet net = TickTest.pairWithNumberFour(0);
        ticks(net, 3);
        net.link(0, 1, 0);
        net.power(0, false);
        net.power(0, true);
        ticks(net, 1);
        Check.due("19: from number 1", net.number(0, 0), 1);
        ticks(net, 19);
        Check.due("38: no other one", net.number(0, 0), 1);
        ticks(net, 1);
        Check.due("39: 20 ticks old", net.number(0, 0), 2);
    }

    private static void powerOffHasMadeNone() {
        Check.part("promise 4, has made no description");
        LinkStateNet net = new LinkStateNet();
        ticks(net, 1);
        net.power(3, false);
        net.power(3, true);
        ticks(net, 1);
        Check.due("a tick after the last one", net.count(5), 6);
        Check.due("age", net.age(3, 3), 0);
        Check.due("number", net.number(3, 3), 1);
        Check.due("the others made none", net.age(2, 2), 1);
    }

    private static void powerOffKeepsStubsAndLinks() {
        Check.part("promise 4, its stubs and links stay");
        LinkStateNet net = PromisesTest.pair(6, 4);
        net.stub(0, 0, 0, 1, 1);
        net.power(0, false);
        Check.due("the link", net.link(0, 1, 6), false);
        Check.due("a stub while it is off", net.stub(0, 1, 128, 1, 1), true);
        Check.due("losses while it is off", net.lose(0, 1, 0), true);
        Check.due("a link while it is off", net.link(0, 2, 3), true);
        net.power(0, true);
        ticks(net, 1);
        Check.due("slot 0", net.route(0, 0), 0);
        Check.due("slot 1", net.route(0, 128), 0);
        ticks(net, 7);
        Check.due("the link's cost", net.distance(0, 1), 6);
        Check.due("the new link's cost", net.distance(0, 2), 3);
    }

    private static void powerOffLeavesTheOthers() {
        Check.part("promise 4, what the others keep and owe stays");
        LinkStateNet net = PromisesTest.pair(1, 4);
        net.stub(0, 0, 0, 0, 1);
        net.lose(0, 1, 9);
        ticks(net, 2);
        net.power(1, false);
        Check.due("kept", net.neighbour(0, 1), 2);
        Check.due("owed", net.owed(0, 1), 1);
        Check.due("held", net.number(0, 1), 2);
    }

    private static void loseWithoutLink() {
        Check.part("promise 5, no such link");
        LinkStateNet net = PromisesTest.pair(1, 0);
        Check.due("from 0 to 1", net.lose(0, 1, 0), true);
        Check.due("from 1 to 0", net.lose(1, 0, 0), true);
        Check.due("from 0 to 2", net.lose(0, 2, 0), false);
        Check.due("from 2 to 0", net.lose(2, 0, 0), false);
        Check.due("from 0 to 0", net.lose(0, 0, 0), false);
        net.power(1, false);
        Check.due("to one that is off", net.lose(0, 1, 0), true);
        net.link(0, 1, 0);
        Check.due("a link that is gone", net.lose(0, 1, 0), false);
    }

    private static void loseFromNoneToNine() {
        Check.part("promise 5, n is not 0 .. 9");
        LinkStateNet net = PromisesTest.pair(1, 0);
        Check.due("9", net.lose(0, 1, 9), true);
        Check.due("10", net.lose(0, 1, 10), false);
        Check.due("-1", net.lose(0, 1, -1), false);
        ticks(net, 18);
        Check.due("nine are lost", net.count(4), 9);
        ticks(net, 2);
        Check.due("and no more", net.count(4), 9);
        Check.due("5", net.lose(0, 1, 5), true);
        Check.due("0 instead", net.lose(0, 1, 0), true);
        ticks(net, 2);
        Check.due("none is lost", net.count(4), 9);
    }

    private static void passFromOneToFour() {
        Check.part("promise 6, n is not 1 .. 4");
        for (int n = -1; n <= 6; n++) {
            LinkStateNet net = new LinkStateNet();
            ticks(net, 1);
            boolean inside = n >= 1 && n <= 4;
            Check.due("pass " + n, net.pass(n), inside);
            Check.due("ticks of pass " + n, net.age(0, 0), inside ? n : 0);
        }
    }

    private static void neighbourFromNoneToFull() {
        Check.part("promise 7, 2 if full, else 1 if heard, else 0; -1 without a link");
        LinkStateNet net = new LinkStateNet();
        Check.due("no link", net.neighbour(1, 3), -1);
        net.link(1, 3, 1);
        int[] due = {0, 0, 1, 1, 2, 2};
        for (int tick = 0; tick < due.length; tick++) {
            Check.due("of 1 after " + tick, net.neighbour(1, 3), due[tick]);
            Check.due("of 3 after " + tick, net.neighbour(3, 1), due[tick]);
            net.pass(1);
        }
        net.link(3, 1, 0);
        Check.due("no link any more", net.neighbour(1, 3), -1);
    }

    private static void neighbourOfOneThatIsOff() {
        Check.part("promise 7, off");
        LinkStateNet net = PromisesTest.pair(1, 4);
        net.power(0, false);
        Check.due("0, not -1", net.neighbour(0, 1), 0);
        Check.due("full until it is silent", net.neighbour(1, 0), 2);
    }

    private static void numberFromNoneOn() {
        Check.part("promise 8, 0 if it holds none; -1 if one is no router");
        LinkStateNet net = new LinkStateNet();
        Check.due("none", net.number(4, 4), 0);
        Check.due("router -1", net.number(-1, 4), -1);
        Check.due("router 5", net.number(5, 4), -1);
        Check.due("origin -1", net.number(4, -1), -1);
        Check.due("origin 5", net.number(4, 5), -1);
        ticks(net, 1);
        Check.due("one", net.number(4, 4), 1);
        Check.due("none of another", net.number(4, 3), 0);
    }

    private static void ageFromNewToGone() {
        Check.part("promise 9, -1 if it holds none");
        LinkStateNet net = PromisesTest.pair(1, 0);
        Check.due("none", net.age(1, 0), -1);
        ticks(net, 4);
        net.power(0, false);
        for (int age = 0; age <= 39; age++) {
            Check.due("age " + age, net.age(1, 0), age);
            net.pass(1);
        }
        Check.due("none any more", net.age(1, 0), -1);
        Check.due("it holds its own", net.age(1, 1) >= 0, true);
    }

    private static void listedFromNotToNine() {
        Check.part("promise 10, 0 if it is not listed; -1 if r holds none");
        LinkStateNet net = new LinkStateNet();
        Check.due("none", net.listed(0, 0, 0), -1);
        net.link(0, 1, 9);
        net.link(0, 2, 1);
        ticks(net, 1);
        Check.due("not listed", net.listed(0, 0, 1), 0);
        ticks(net, 3);
        Check.due("cost 9", net.listed(0, 0, 1), 9);
        Check.due("cost 1", net.listed(0, 0, 2), 1);
        Check.due("itself", net.listed(0, 0, 0), 0);
        Check.due("one without a link", net.listed(0, 0, 4), 0);
        Check.due("r holds none", net.listed(0, 4, 4), -1);
    }

    private static void owedWithoutLink() {
        Check.part("promise 11, -1 if there is no link");
        LinkStateNet net = new LinkStateNet();
        Check.due("none", net.owed(0, 1), -1);
        net.link(0, 1, 1);
        Check.due("one", net.owed(0, 1), 0);
        Check.due("the other way", net.owed(1, 0), 0);
        net.power(0, false);
        Check.due("by one that is off", net.owed(0, 1), 0);
        net.link(0, 1, 0);
        Check.due("none any more", net.owed(0, 1), -1);
    }

    private static void distanceFromOneThatIsOff() {
        Check.part("promise 12, -1 if there is none, r is off, or one is no router");
        LinkStateNet net = PromisesTest.pair(9, 4);
        Check.due("one", net.distance(0, 1), 9);
        Check.due("none", net.distance(0, 2), -1);
        net.power(0, false);
        Check.due("r is off", net.distance(0, 0), -1);
        Check.due("v is off", net.distance(1, 0), 9);
        Check.due("v is no router", net.distance(1, 5), -1);
        Check.due("r is no router", net.distance(5, 1), -1);
    }

    private static void hopThatThereIsNot() {
        Check.part("promise 13, -1 if there is none, r is off, or one is no router");
        LinkStateNet net = row(10);
        Check.due("one", net.hop(4, 0), 3);
        Check.due("v is r", net.hop(4, 4), -1);
        net.link(0, 1, 0);
        ticks(net, 6);
        Check.due("none any more", net.hop(4, 0), -1);
        Check.due("one to the next", net.hop(4, 1), 3);
        net.power(3, false);
        Check.due("r is off", net.hop(3, 4), -1);
        Check.due("the hop is off", net.hop(4, 1), 3);
        Check.due("v is no router", net.hop(4, -1), -1);
        Check.due("r is no router", net.hop(-1, 4), -1);
    }

    private static void routeThatThereIsNot() {
        Check.part("promise 14, -1 if no stub that counts fits, r is off, or the address is wrong");
        LinkStateNet net = PromisesTest.pair(1, 0);
        net.stub(1, 0, 100, 7, 1);
        net.stub(2, 0, 0, 0, 1);
        ticks(net, 6);
        Check.due("just below", net.route(0, 99), -1);
        Check.due("first", net.route(0, 100), 1);
        Check.due("last", net.route(0, 101), 1);
        Check.due("just beyond", net.route(0, 102), -1);
        Check.due("one that has no distance does not count", net.route(0, 200), -1);
        Check.due("but for itself", net.route(2, 200), 2);
        Check.due("address -1", net.route(2, -1), -1);
        Check.due("address 256", net.route(2, 256), -1);
        net.power(1, false);
        Check.due("r is off", net.route(1, 100), -1);
        Check.due("the destination is off", net.route(0, 100), 1);
    }

    /** Routers 0 and 1 each send by the other one, as 0 has not heard yet that the link 1 - 2 is gone. */
    private static LinkStateNet circle() {
        LinkStateNet net = new LinkStateNet();
        net.link(0, 1, 1);
        net.link(1, 2, 1);
        net.link(0, 2, 9);
        net.stub(2, 0, 0, 0, 1);
        ticks(net, 10);
        net.link(1, 2, 0);
        net.lose(1, 0, 1);
        net.lose(2, 0, 1);
        ticks(net, 1);
        return net;
    }

    private static void sendHopsFromOneToFifteen() {
        Check.part("promise 15, hops 1 .. 15");
        LinkStateNet net = circle();
        Check.due("-1", net.send(0, 7, -1), -1);
        Check.due("0", net.send(0, 7, 0), -1);
        for (int hops = 1; hops <= 15; hops++) {
            Check.due("from 0 with " + hops, net.send(0, 7, hops), hops % 2 == 1 ? 200 : 201);
            Check.due("from 1 with " + hops, net.send(1, 7, hops), hops % 2 == 1 ? 201 : 200);
        }
        Check.due("16", net.send(0, 7, 16), -1);
        Check.due("17", net.send(0, 7, 17), -1);
    }

    private static void sendEndsAtEachRouter() {
        Check.part("promise 15, the number said, for each router");
        LinkStateNet net = row(0);
        for (int r = 0; r < 5; r++) {
            net.stub(r, 0, 32 * r, 3, 1);
        }
        ticks(net, 12);
        for (int from = 0; from < 5; from++) {
            Check.due("unreachable from " + from, net.send(from, 255, 15), 300 + from);
            for (int to = 0; to < 5; to++) {
                int steps = Math.abs(from - to);
                Check.due("from " + from + " to " + to, net.send(from, 32 * to, steps + 1), 100 + to);
                if (steps > 0) {
                    int before = to > from ? to - 1 : to + 1;
                    Check.due("one hop less from " + from + " to " + to,
                        net.send(from, 32 * to + 31, steps), 200 + before);
                }
            }
        }
        for (int u = 0; u < 4; u++) {
            net.link(u, u + 1, 0);
            Check.due("gone at " + u, net.send(u, 32 * (u + 1), 15), 400 + u);
            Check.due("gone at " + (u + 1), net.send(u + 1, 32 * u, 15), 400 + u + 1);
        }
    }

    private static void sendLooksAtHopsLast() {
        Check.part("promise 15, with one hop left");
        LinkStateNet net = PromisesTest.pair(1, 0);
        net.stub(0, 0, 0, 1, 1);
        net.stub(1, 0, 128, 2, 1);
        ticks(net, 6);
        Check.due("unreachable", net.send(0, 255, 1), 300);
        Check.due("delivered", net.send(0, 0, 1), 100);
        Check.due("exceeded", net.send(0, 128, 1), 200);
        net.link(0, 1, 0);
        Check.due("exceeded before it is gone", net.send(0, 128, 1), 200);
        Check.due("gone with two", net.send(0, 128, 2), 400);
    }

    private static void sendGone() {
        Check.part("promise 15, no link from u to that or that is off");
        LinkStateNet net = row(0);
        net.stub(2, 0, 0, 0, 1);
        ticks(net, 10);
        net.lose(0, 1, 9);
        net.lose(1, 2, 9);
        Check.due("losses do not matter", net.send(0, 5, 3), 102);
        net.power(2, false);
        Check.due("that is off", net.send(0, 5, 3), 401);
        Check.due("r is off", net.send(2, 5, 3), -1);
        net.power(2, true);
        Check.due("that is on, but has forgotten its stubs' description", net.send(0, 5, 3), 302);
        net.link(0, 1, 0);
        Check.due("no link", net.send(0, 5, 3), 400);
        Check.due("there is one from 1", net.send(1, 5, 2), 302);
    }

    private static void countOfHellos() {
        Check.part("promise 16, kind 0");
        LinkStateNet net = row(1);
        Check.due("none in the first tick", net.count(0), 0);
        ticks(net, 1);
        Check.due("two over each of four links", net.count(0), 8);
        net.lose(0, 1, 1);
        net.power(4, false);
        ticks(net, 2);
        Check.due("lost ones too, but none of one that is off", net.count(0), 8 + 7);
    }

    private static void countOfUpdates() {
        Check.part("promise 16, kinds 1 and 2");
        LinkStateNet net = new LinkStateNet();
        net.link(0, 1, 1);
        net.link(0, 2, 1);
        ticks(net, 3);
        Check.due("no updates", net.count(1), 0);
        Check.due("no descriptions", net.count(2), 0);
        ticks(net, 1);
        Check.due("two over each of two links", net.count(1), 4);
        Check.due("with one each", net.count(2), 4);
        ticks(net, 1);
        Check.due("0 sends on", net.count(1), 6);
        Check.due("one each", net.count(2), 6);
        ticks(net, 1);
        net.stub(0, 0, 0, 0, 1);
        net.stub(1, 0, 0, 0, 1);
        net.lose(0, 2, 1);
        ticks(net, 1);
        Check.due("0 to both, one of them lost, and 1 to 0", net.count(1), 9);
        Check.due("one each again", net.count(2), 9);
        net.lose(0, 2, 2);
        ticks(net, 1);
        Check.due("that of 1 is sent on to 2 and lost", net.count(1), 10);
        ticks(net, 2);
        Check.due("that of 0 is sent again after 3 ticks", net.count(1), 11);
        ticks(net, 1);
        Check.due("that of 1 a tick later", net.count(1), 12);
        Check.due("one each to the end", net.count(2), 12);
    }

    private static void countOfAcks() {
        Check.part("promise 16, kind 3");
        LinkStateNet net = PromisesTest.pair(1, 4);
        Check.due("one each", net.count(3), 2);
        ticks(net, 2);
        net.stub(0, 0, 0, 0, 1);
        net.lose(0, 1, 1);
        ticks(net, 1);
        Check.due("none for an update that is lost", net.count(3), 2);
        ticks(net, 3);
        Check.due("10: sent again and acknowledged", net.count(3), 3);
        ticks(net, 2);
        net.stub(0, 0, 0, 0, 2);
        net.lose(1, 0, 1);
        ticks(net, 1);
        Check.due("13: one that is lost counts too", net.count(3), 4);
        Check.due("13: still owed", net.owed(0, 1), 1);
        ticks(net, 3);
        Check.due("16: one for the same again", net.count(3), 5);
        Check.due("16: not owed", net.owed(0, 1), 0);
    }

    private static void countOfLost() {
        Check.part("promise 16, kind 4");
        LinkStateNet net = PromisesTest.pair(1, 4);
        ticks(net, 2);
        net.stub(0, 0, 0, 0, 1);
        net.lose(0, 1, 1);
        ticks(net, 1);
        Check.due("an update", net.count(4), 1);
        net.lose(0, 1, 1);
        ticks(net, 1);
        Check.due("a hello", net.count(4), 2);
        ticks(net, 1);
        net.stub(1, 0, 0, 0, 1);
        net.lose(0, 1, 3);
        ticks(net, 1);
        Check.due("a hello, an update and an ack", net.count(4), 5);
        Check.due("so 1 owes its description still", net.owed(1, 0), 1);
        net.power(0, false);
        ticks(net, 2);
        Check.due("one to 0, which is off", net.count(4), 6);
    }

    private static void countOfMade() {
        Check.part("promise 16, kind 5");
        LinkStateNet net = new LinkStateNet();
        net.power(4, false);
        Check.due("none", net.count(5), 0);
        ticks(net, 1);
        Check.due("one of each that is on", net.count(5), 4);
        ticks(net, 19);
        Check.due("no more", net.count(5), 4);
        ticks(net, 1);
        Check.due("anew after 20 ticks", net.count(5), 8);
        net.power(4, true);
        Check.due("not before a tick", net.count(5), 8);
        ticks(net, 1);
        Check.due("one more", net.count(5), 9);
    }

    private static void countOfInstalled() {
        Check.part("promise 16, kind 6");
        LinkStateNet net = PromisesTest.pair(1, 3);
        Check.due("its own do not count", net.count(6), 0);
        ticks(net, 1);
        Check.due("one each", net.count(6), 2);
        net.stub(0, 0, 0, 0, 1);
        net.lose(1, 0, 2);
        ticks(net, 2);
        Check.due("one more", net.count(6), 3);
        Check.due("whose ack was lost", net.owed(0, 1), 1);
        ticks(net, 3);
        Check.due("the same again does not count", net.count(6), 3);
        Check.due("but is acknowledged", net.owed(0, 1), 0);
    }

    private static void countOfAnotherKind() {
        Check.part("promise 16, -1 for another kind");
        LinkStateNet net = PromisesTest.pair(1, 4);
        Check.due("-1", net.count(-1), -1);
        Check.due("0", net.count(0), 4);
        Check.due("6", net.count(6), 2);
        Check.due("7", net.count(7), -1);
    }
}
