/**
 * The boundaries that 'Terms' names for routers, links, costs, losses, addresses, prefixes, stubs,
 * packets and descriptions: a test for each, at the boundary and just beyond it.
 */
public final class TermsTest {
    public static void main(String[] args) {
        routersAreFive();
        linkCosts();
        oneLinkBetweenTwo();
        lossesOfANewLink();
        lossesFromNoneToNine();
        lossesOfEachDirection();
        theClockIsZeroAtFirst();
        addresses();
        prefixLengths();
        prefixValues();
        fitting();
        stubSlots();
        stubCosts();
        packetToOneThatIsOff();
        packetLostByLossesToOneThatIsOff();
        neighboursAtFirst();
        greaterNumberIsNewer();
        laterBirthIsNewer();
        bothEqualIsTheSame();
        oneDescriptionOfEachOrigin();
        fromNoneOwedToAllFive();
        installedIsOwedToTheOthers();
        installedIsNeverSent();
        latestNumberAtFirst();
        edgesNeedBoth();
        edgesNeedTheOtherEndToo();
        distanceFromNoneToTheFarthest();
        hopIsTheLowest();
        destinationByLength();
        destinationBySum();
        destinationByOrigin();
        theLastCall();
        Check.end();
    }

    private static void ticks(LinkStateNet net, int n) {
        PromisesTest.ticks(net, n);
    }

    private static void routersAreFive() {
        Check.part("ROUTERS 0 .. 4");
        LinkStateNet net = new LinkStateNet();
        Check.due("link 0 4", net.link(0, 4, 5), true);
        Check.due("stub of 0", net.stub(0, 0, 0, 8, 1), true);
        Check.due("stub of 4", net.stub(4, 0, 255, 8, 1), true);
        ticks(net, 4);
        for (int beyond : new int[] {-1, 5}) {
            Check.due("link, first " + beyond, net.link(beyond, 2, 1), false);
            Check.due("link, second " + beyond, net.link(2, beyond, 1), false);
            Check.due("stub " + beyond, net.stub(beyond, 0, 0, 0, 1), false);
            Check.due("power off " + beyond, net.power(beyond, false), false);
            Check.due("power on " + beyond, net.power(beyond, true), false);
            Check.due("neighbour, first " + beyond, net.neighbour(beyond, 0), -1);
            Check.due("neighbour, second " + beyond, net.neighbour(0, beyond), -1);
            Check.due("number, first " + beyond, net.number(beyond, 0), -1);
            Check.due("number, second " + beyond, net.number(0, beyond), -1);
            Check.due("age, first " + beyond, net.age(beyond, 0), -1);
            Check.due("age, second " + beyond, net.age(0, beyond), -1);
            Check.due("listed, first " + beyond, net.listed(beyond, 0, 4), -1);
            Check.due("listed, second " + beyond, net.listed(0, beyond, 4), -1);
            Check.due("listed, third " + beyond, net.listed(0, 0, beyond), -1);
            Check.due("owed, first " + beyond, net.owed(beyond, 0), -1);
            Check.due("owed, second " + beyond, net.owed(0, beyond), -1);
            Check.due("distance, first " + beyond, net.distance(beyond, 0), -1);
            Check.due("distance, second " + beyond, net.distance(0, beyond), -1);
            Check.due("distance, both " + beyond, net.distance(beyond, beyond), -1);
            Check.due("hop, first " + beyond, net.hop(beyond, 0), -1);
            Check.due("hop, second " + beyond, net.hop(0, beyond), -1);
            Check.due("route " + beyond, net.route(beyond, 0), -1);
            Check.due("send " + beyond, net.send(beyond, 0, 5), -1);
            Check.due("lose, first " + beyond, net.lose(beyond, 0, 1), false);
            Check.due("lose, second " + beyond, net.lose(0, beyond, 1), false);
        }
        for (int r = 0; r <= 4; r += 4) {
            int other = 4 - r;
            Check.due("neighbour of " + r, net.neighbour(r, other), 2);
            Check.due("number at " + r, net.number(r, other), 2);
            Check.due("age at " + r, net.age(r, other), 0);
            Check.due("listed at " + r, net.listed(r, other, r), 5);
            Check.due("owed by " + r, net.owed(r, other), 0);
            Check.due("distance from " + r, net.distance(r, other), 5);
            Check.due("hop of " + r, net.hop(r, other), other);
            Check.due("route of " + r, net.route(r, other == 0 ? 0 : 255), other);
            Check.due("send from " + r, net.send(r, other == 0 ? 0 : 255, 2), 100 + other);
            Check.due("lose from " + r, net.lose(r, other, 1), true);
        }
        Check.due("power 0", net.power(0, false), true);
        Check.due("power 4", net.power(4, false), true);
    }

    private static void linkCosts() {
        Check.part("a COST 1 .. 9");
        for (int cost = 1; cost <= 9; cost++) {
            LinkStateNet net = new LinkStateNet();
            Check.due("cost " + cost, net.link(3, 2, cost), true);
            ticks(net, 4);
            Check.due("listed by 3, cost " + cost, net.listed(2, 3, 2), cost);
            Check.due("listed by 2, cost " + cost, net.listed(3, 2, 3), cost);
        }
        LinkStateNet net = new LinkStateNet();
        Check.due("cost -1", net.link(3, 2, -1), false);
        Check.due("cost 10", net.link(3, 2, 10), false);
        Check.due("cost 0", net.link(3, 2, 0), false);
        Check.due("no link", net.neighbour(3, 2), -1);
    }

    private static void oneLinkBetweenTwo() {
        Check.part("at most one link between the same two");
        LinkStateNet net = new LinkStateNet();
        Check.due("one way", net.link(0, 1, 3), true);
        Check.due("the other way", net.link(1, 0, 4), true);
        ticks(net, 2);
        Check.due("a hello from each end", net.count(0), 2);
        ticks(net, 2);
        Check.due("with the later cost at 0", net.listed(0, 0, 1), 4);
        Check.due("with the later cost at 1", net.listed(1, 1, 0), 4);
        Check.due("gone at once", net.link(0, 1, 0), true);
        Check.due("from both ends", net.neighbour(0, 1) + net.neighbour(1, 0), -2);
        Check.due("so not again", net.link(1, 0, 0), false);
    }

    private static void lossesOfANewLink() {
        Check.part("losses, 0 when it comes to be");
        LinkStateNet net = new LinkStateNet();
        net.link(0, 1, 1);
        net.lose(0, 1, 9);
        net.lose(1, 0, 9);
        net.link(0, 1, 0);
        net.link(0, 1, 1);
        ticks(net, 2);
        Check.due("nothing is lost", net.count(4), 0);
        Check.due("from 0", net.neighbour(1, 0), 1);
        Check.due("from 1", net.neighbour(0, 1), 1);
    }

    /** Until its losses are used up, 0 sends nothing but a hello in every second tick. */
    private static void lossesFromNoneToNine() {
        Check.part("losses 0 .. 9");
        for (int n = 0; n <= 9; n++) {
            LinkStateNet net = PromisesTest.pair(1, 0);
            Check.due("lose " + n, net.lose(0, 1, n), true);
            ticks(net, 2 * n);
            Check.due("all so far, " + n, net.count(4), n);
            Check.due("so 0 is not heard, " + n, net.neighbour(1, 0), 0);
            ticks(net, 2);
            Check.due("not the next one, " + n, net.count(4), n);
            Check.due("so 0 is heard, " + n, net.neighbour(1, 0) > 0, true);
        }
        LinkStateNet net = PromisesTest.pair(1, 0);
        Check.due("lose -1", net.lose(0, 1, -1), false);
        Check.due("lose 10", net.lose(0, 1, 10), false);
        ticks(net, 4);
        Check.due("so none is lost", net.count(4), 0);
    }

    private static void lossesOfEachDirection() {
        Check.part("losses for each of its two directions");
        LinkStateNet net = PromisesTest.pair(1, 0);
        net.lose(1, 0, 1);
        ticks(net, 2);
        Check.due("from 1 to 0", net.neighbour(0, 1), 0);
        Check.due("not from 0 to 1", net.neighbour(1, 0), 1);
        Check.due("one lost", net.count(4), 1);
    }

    private static void theClockIsZeroAtFirst() {
        Check.part("the CLOCK is 0 at first");
        LinkStateNet net = PromisesTest.pair(1, 0);
        int[] hellos = {0, 2, 2, 4, 4, 6};
        for (int tick = 1; tick <= 6; tick++) {
            net.pass(1);
            Check.due("hellos after tick " + tick, net.count(0), hellos[tick - 1]);
        }
        Check.due("born in the first tick", net.age(4, 4), 5);
    }

    private static void addresses() {
        Check.part("ADDRESSES are 0 .. 255");
        LinkStateNet net = new LinkStateNet();
        net.stub(1, 0, 0, 0, 1);
        ticks(net, 1);
        Check.due("route 0", net.route(1, 0), 1);
        Check.due("route 255", net.route(1, 255), 1);
        Check.due("route -1", net.route(1, -1), -1);
        Check.due("route 256", net.route(1, 256), -1);
        Check.due("send 0", net.send(1, 0, 1), 101);
        Check.due("send 255", net.send(1, 255, 1), 101);
        Check.due("send -1", net.send(1, -1, 1), -1);
        Check.due("send 256", net.send(1, 256, 1), -1);
    }

    private static void prefixLengths() {
        Check.part("a length 0 .. 8");
        LinkStateNet net = new LinkStateNet();
        Check.due("length -1", net.stub(0, 0, 0, -1, 1), false);
        for (int length = 0; length <= 8; length++) {
            Check.due("length " + length, net.stub(0, 0, 0, length, 1), true);
        }
        Check.due("length 9", net.stub(0, 0, 0, 9, 1), false);
    }

    private static void prefixValues() {
        Check.part("a value 0 .. 255 whose lowest 8 - length bits are 0");
        LinkStateNet net = new LinkStateNet();
        for (int length = 0; length <= 8; length++) {
            int step = 1 << (8 - length);
            Check.due("least, length " + length, net.stub(0, 0, 0, length, 1), true);
            Check.due("below the least, length " + length, net.stub(0, 0, -step, length, 1), false);
            Check.due("greatest, length " + length, net.stub(0, 0, 256 - step, length, 1), true);
            Check.due("beyond the greatest, length " + length, net.stub(0, 0, 256, length, 1), false);
            if (length < 8) {
                Check.due("the lowest bit, length " + length, net.stub(0, 0, 1, length, 1), false);
                Check.due("the highest bit that is too low, length " + length,
                    net.stub(0, 0, step / 2, length, 1), false);
                Check.due("all bits, length " + length, net.stub(0, 0, 255, length, 1), false);
            }
        }
    }

    private static void fitting() {
        Check.part("it FITS an address whose highest length bits are those of its value");
        for (int length = 0; length <= 8; length++) {
            int step = 1 << (8 - length);
            for (int pattern : new int[] {0, 255, 165, 90}) {
                int first = pattern / step * step;
                LinkStateNet net = new LinkStateNet();
                net.stub(2, 0, first, length, 1);
                ticks(net, 1);
                for (int address = 0; address <= 255; address++) {
                    boolean inside = address >= first && address < first + step;
                    Check.due(first + "/" + length + " and " + address, net.route(2, address), inside ? 2 : -1);
                }
            }
        }
    }

    private static void stubSlots() {
        Check.part("a STUB in its slots 0 and 1 (at first it has none)");
        LinkStateNet net = new LinkStateNet();
        ticks(net, 1);
        Check.due("none at first", net.route(3, 0), -1);
        Check.due("slot -1", net.stub(3, -1, 0, 1, 1), false);
        Check.due("slot 2", net.stub(3, 2, 0, 1, 1), false);
        Check.due("slot 0", net.stub(3, 0, 0, 1, 1), true);
        Check.due("slot 1", net.stub(3, 1, 128, 1, 1), true);
        ticks(net, 2);
        Check.due("that of slot 0", net.route(3, 0), 3);
        Check.due("that of slot 1", net.route(3, 255), 3);
        Check.due("not that of another router", net.route(2, 0), -1);
        Check.due("another one in slot 0", net.stub(3, 0, 64, 2, 1), true);
        ticks(net, 2);
        Check.due("instead of the first", net.route(3, 0), -1);
        Check.due("the other one", net.route(3, 64), 3);
        Check.due("slot 1 stays", net.route(3, 255), 3);
        Check.due("none in slot 1", net.stub(3, 1, 0, 0, 0), true);
        ticks(net, 2);
        Check.due("slot 1 is empty", net.route(3, 255), -1);
        Check.due("slot 0 stays", net.route(3, 64), 3);
    }

    /** Router 0 has a stub that costs one more than that of 1 each time: by the link that is as far. */
    private static void stubCosts() {
        Check.part("a stub with a cost 1 .. 9");
        LinkStateNet net = new LinkStateNet();
        Check.due("cost -1", net.stub(0, 0, 0, 0, -1), false);
        Check.due("cost 10", net.stub(0, 0, 0, 0, 10), false);
        net.link(0, 1, 1);
        ticks(net, 4);
        for (int cost = 1; cost <= 8; cost++) {
            Check.due("cost " + (cost + 1), net.stub(0, 0, 0, 0, cost + 1), true);
            Check.due("cost " + cost, net.stub(1, 1, 0, 0, cost), true);
            ticks(net, 4);
            Check.due("as far with " + cost, net.route(0, 9), 0);
            Check.due("1 is nearer to itself with " + cost, net.route(1, 9), 1);
            Check.due("cost " + cost + " at 0", net.stub(0, 0, 0, 0, cost), true);
            ticks(net, 4);
            Check.due("0 is nearer with " + cost, net.route(0, 9), 0);
        }
        net.stub(0, 0, 0, 0, 9);
        net.stub(1, 1, 0, 0, 7);
        ticks(net, 4);
        Check.due("9 is more than 7 and the link", net.route(0, 9), 1);
    }

    private static void packetToOneThatIsOff() {
        Check.part("if they are 0, it is LOST if n is off");
        LinkStateNet net = PromisesTest.pair(1, 0);
        net.power(1, false);
        ticks(net, 2);
        Check.due("lost", net.count(4), 1);
        net.power(1, true);
        ticks(net, 1);
        net.power(1, false);
        net.power(1, true);
        ticks(net, 1);
        Check.due("it is on when the next one comes", net.count(4), 1);
        Check.due("so that arrives", net.neighbour(1, 0), 1);
    }

    private static void packetLostByLossesToOneThatIsOff() {
        Check.part("losses fall by one, though n is off");
        LinkStateNet net = PromisesTest.pair(1, 0);
        net.lose(0, 1, 1);
        net.power(1, false);
        ticks(net, 2);
        Check.due("lost once", net.count(4), 1);
        net.power(1, true);
        ticks(net, 2);
        Check.due("the losses were used up", net.count(4), 1);
        Check.due("so the next one arrives", net.neighbour(1, 0), 1);
    }

    private static void neighboursAtFirst() {
        Check.part("neighbours, at first none of these");
        LinkStateNet net = PromisesTest.pair(9, 0);
        Check.due("0", net.neighbour(0, 1), 0);
        Check.due("1", net.neighbour(1, 0), 0);
        ticks(net, 1);
        Check.due("nor after a tick without hellos, 0", net.neighbour(0, 1), 0);
        Check.due("nor after a tick without hellos, 1", net.neighbour(1, 0), 0);
    }

    /** Router 0 begins anew with number 1 after 4 ticks, when 1 holds its number 2 of tick 4. */
    private static LinkStateNet begunAnew() {
        LinkStateNet net = PromisesTest.pair(1, 4);
        net.power(0, false);
        net.power(0, true);
        return net;
    }

    private static void greaterNumberIsNewer() {
        Check.part("newer: the greater number");
        LinkStateNet net = begunAnew();
        net.lose(0, 1, 9);
        ticks(net, 2);
        Check.due("0 made its number 1 later", net.age(0, 0), 1);
        Check.due("than its number 2", net.age(1, 0), 2);
        Check.due("1 became full to 0, which owes it nothing: number 2 is newer", net.owed(0, 1), 0);
        Check.due("1 is full to 0", net.neighbour(0, 1), 2);
    }

    private static void laterBirthIsNewer() {
        Check.part("newer: with equal numbers the later birth");
        LinkStateNet net = begunAnew();
        ticks(net, 5);
        Check.due("0 holds number 2", net.number(0, 0), 2);
        Check.due("of tick 7", net.age(0, 0), 2);
        Check.due("1 holds number 2", net.number(1, 0), 2);
        Check.due("of tick 4", net.age(1, 0), 5);
        ticks(net, 1);
        Check.due("1 takes the later one", net.age(1, 0), 3);
        Check.due("0 was not pressed by the earlier one", net.number(0, 0), 2);
        ticks(net, 4);
        Check.due("nor later", net.number(0, 0), 2);
    }

    private static void bothEqualIsTheSame() {
        Check.part("with both equal they are the SAME");
        LinkStateNet net = PromisesTest.pair(1, 4);
        net.link(0, 1, 0);
        net.link(0, 1, 1);
        net.link(1, 2, 1);
        net.link(0, 2, 1);
        ticks(net, 3);
        int[] sent = {net.count(1), net.count(2)};
        ticks(net, 1);
        Check.due("8: 0 and 1 are full", net.neighbour(0, 1), 2);
        Check.due("8: six updates", net.count(1), sent[0] + 6);
        Check.due("8: 0 and 1 owe 2 two each, 2 owes each one, and one another their own alone",
            net.count(2), sent[1] + 2 + 2 + 1 + 1 + 1 + 1);
    }

    private static void oneDescriptionOfEachOrigin() {
        Check.part("holds at most one description of each origin (at first none)");
        LinkStateNet net = PromisesTest.pair(1, 0);
        Check.due("none at first", net.number(1, 0), 0);
        ticks(net, 4);
        Check.due("one", net.number(1, 0), 2);
        net.stub(0, 0, 0, 1, 1);
        ticks(net, 2);
        Check.due("a newer one instead", net.number(1, 0), 3);
        net.stub(0, 0, 128, 1, 1);
        ticks(net, 2);
        Check.due("a newer one again", net.number(1, 0), 4);
        Check.due("nothing of the older one", net.route(1, 0), -1);
        Check.due("but all of the newer one", net.route(1, 128), 0);
    }

    /** Router 1 comes back to 0, which holds all five descriptions; a hello to it is lost. */
    private static void fromNoneOwedToAllFive() {
        Check.part("owed, from none to all five");
        LinkStateNet net = new LinkStateNet();
        for (int r = 1; r < 5; r++) {
            net.link(0, r, 1);
        }
        ticks(net, 10);
        Check.due("10: none owed", net.owed(0, 1), 0);
        net.power(1, false);
        ticks(net, 6);
        net.power(1, true);
        ticks(net, 3);
        Check.due("19: none owed yet", net.owed(0, 1), 0);
        net.lose(0, 1, 1);
        int descriptions = net.count(2);
        ticks(net, 1);
        Check.due("20: 1 is full to 0", net.neighbour(0, 1), 2);
        Check.due("20: 0 is not full to 1", net.neighbour(1, 0), 1);
        Check.due("20: all five are owed", net.owed(0, 1), 5);
        Check.due("20: all five are sent, and its new one to the three others", net.count(2), descriptions + 5 + 3);
        Check.due("20: but nothing happens there", net.number(1, 0), 0);
        ticks(net, 3);
        Check.due("23: sent again after three ticks", net.number(1, 0), net.number(0, 0));
        Check.due("23: and acknowledged", net.owed(0, 1), 0);
        for (int x = 2; x < 5; x++) {
            Check.due("23: 1 holds that of " + x, net.age(1, x), net.age(0, x));
        }
    }

    private static void installedIsOwedToTheOthers() {
        Check.part("installs: owed to every full neighbour, but not to m");
        LinkStateNet net = new LinkStateNet();
        net.link(0, 1, 1);
        net.link(0, 2, 1);
        net.link(0, 3, 1);
        ticks(net, 10);
        net.link(0, 4, 1);
        net.stub(1, 0, 0, 0, 1);
        ticks(net, 1);
        Check.due("0 got it from 1", net.route(0, 0), 1);
        Check.due("not owed to 1", net.owed(0, 1), 0);
        Check.due("owed to 2", net.owed(0, 2), 1);
        Check.due("owed to 3", net.owed(0, 3), 1);
        Check.due("not owed to 4, which is not full", net.owed(0, 4), 0);
    }

    /** What 0 owed 2 of the origin 1 was sent a tick before; that does not delay the next one. */
    private static void installedIsNeverSent() {
        Check.part("installs: never sent");
        LinkStateNet net = new LinkStateNet();
        net.link(0, 1, 1);
        net.link(0, 2, 1);
        ticks(net, 10);
        net.lose(0, 2, 9);
        net.stub(1, 0, 0, 0, 1);
        ticks(net, 1);
        net.stub(1, 0, 0, 0, 2);
        ticks(net, 1);
        int updates = net.count(1);
        Check.due("12: 0 sent the first one, which is lost", net.owed(0, 2), 1);
        ticks(net, 1);
        Check.due("13: 1 sent the second one", net.count(1), updates + 1);
        Check.due("13: 0 got it and owes it", net.owed(0, 2), 1);
        net.lose(0, 2, 0);
        ticks(net, 1);
        Check.due("14: 0 sends it", net.count(1), updates + 2);
        Check.due("14: so 2 holds it", net.number(2, 1), net.number(1, 1));
    }

    private static void latestNumberAtFirst() {
        Check.part("a LATEST NUMBER (0 at first), at first not pressed");
        LinkStateNet net = new LinkStateNet();
        ticks(net, 1);
        for (int r = 0; r < 5; r++) {
            Check.due("the first description of " + r, net.number(r, r), 1);
        }
        ticks(net, 19);
        for (int r = 0; r < 5; r++) {
            Check.due("no second one of " + r + " without cause", net.number(r, r), 1);
        }
    }

    private static void edgesNeedBoth() {
        Check.part("an EDGE if u lists v and v lists u");
        LinkStateNet net = PromisesTest.pair(4, 2);
        net.lose(1, 0, 1);
        ticks(net, 2);
        Check.due("4: 1 lists 0", net.listed(1, 1, 0), 4);
        Check.due("4: 0 does not list 1", net.listed(0, 0, 1), 0);
        Check.due("4: 1 holds none of 0", net.number(1, 0), 0);
        Check.due("4: so no distance for 1", net.distance(1, 0), -1);
        ticks(net, 2);
        Check.due("6: 0 lists 1", net.listed(0, 0, 1), 4);
        Check.due("6: 1 has got that", net.distance(1, 0), 4);
        Check.due("6: that of 1 was sent in tick 4, when 1 was not full to 0", net.distance(0, 1), -1);
        ticks(net, 1);
        Check.due("7: it is sent again", net.distance(0, 1), 4);
    }

    /** Router 0 hears 1 no more and tells so by 2; that it says so to 1 itself is lost. */
    private static void edgesNeedTheOtherEndToo() {
        Check.part("an EDGE only if v lists u");
        LinkStateNet net = new LinkStateNet();
        net.link(0, 1, 1);
        net.link(1, 2, 5);
        net.link(2, 0, 5);
        ticks(net, 10);
        Check.due("10: by the link", net.distance(1, 0), 1);
        net.lose(1, 0, 9);
        ticks(net, 5);
        net.lose(0, 1, 1);
        ticks(net, 1);
        Check.due("16: 1 lists 0", net.listed(1, 1, 0), 1);
        Check.due("16: 0 does not list 1, as 1 has heard from 2", net.listed(1, 0, 1), 0);
        Check.due("16: so the way is by 2", net.distance(1, 0), 10);
        Check.due("16: and the hop", net.hop(1, 0), 2);
        Check.due("16: the other way too", net.distance(0, 1), 10);
    }

    private static void distanceFromNoneToTheFarthest() {
        Check.part("the least sum of costs along edges, 0 for u = v");
        LinkStateNet net = new LinkStateNet();
        Check.due("0 without any description", net.distance(2, 2), 0);
        for (int r = 0; r < 4; r++) {
            net.link(r, r + 1, 9);
        }
        ticks(net, 4);
        Check.due("4: one link", net.distance(0, 1), 9);
        Check.due("4: none over two links yet", net.distance(0, 2), -1);
        ticks(net, 3);
        for (int v = 0; v < 5; v++) {
            Check.due("from 0 to " + v, net.distance(0, v), 9 * v);
            Check.due("from 4 to " + v, net.distance(4, v), 9 * (4 - v));
        }
        Check.due("the first hop on the longest way", net.hop(0, 4), 1);
    }

    private static void hopIsTheLowest() {
        Check.part("the HOP is the lowest n");
        LinkStateNet net = new LinkStateNet();
        for (int n = 1; n < 4; n++) {
            net.link(0, n, 2);
            net.link(n, 4, 2);
        }
        ticks(net, 8);
        Check.due("of three as good", net.hop(0, 4), 1);
        Check.due("back", net.hop(4, 0), 1);
        Check.due("from 1 to 2 both ends are as good", net.hop(1, 2), 0);
        net.link(4, 1, 3);
        ticks(net, 8);
        Check.due("1 is farther by one", net.hop(0, 4), 2);
        net.link(0, 3, 1);
        ticks(net, 8);
        Check.due("3 is nearer by one", net.hop(0, 4), 3);
        Check.due("v is r", net.hop(0, 0), -1);
    }

    private static void destinationByLength() {
        Check.part("those with the greatest length count");
        LinkStateNet net = PromisesTest.pair(9, 0);
        net.stub(0, 0, 128, 1, 1);
        net.stub(1, 0, 128, 2, 9);
        ticks(net, 6);
        Check.due("longer by one, farther by seventeen", net.route(0, 128), 1);
        Check.due("the longer does not fit", net.route(0, 192), 0);
        Check.due("none fits", net.route(0, 127), -1);
    }

    private static void destinationBySum() {
        Check.part("of these that with the least sum");
        LinkStateNet net = PromisesTest.pair(3, 0);
        net.stub(0, 0, 128, 1, 5);
        net.stub(1, 1, 128, 1, 1);
        ticks(net, 6);
        Check.due("3 + 1 is less than 5", net.route(0, 200), 1);
        Check.due("1 is less than 3 + 5", net.route(1, 200), 1);
        net.stub(0, 1, 128, 1, 4);
        ticks(net, 6);
        Check.due("3 + 1 is 4", net.route(0, 200), 0);
        net.stub(0, 1, 128, 1, 3);
        ticks(net, 6);
        Check.due("3 is less than 3 + 1", net.route(0, 200), 0);
    }

    private static void destinationByOrigin() {
        Check.part("of these the one of the lowest origin");
        LinkStateNet net = new LinkStateNet();
        for (int r = 0; r < 4; r++) {
            net.link(4, r, 2);
            net.stub(r, r % 2, 0, 0, 6);
        }
        net.stub(4, 0, 0, 0, 8);
        ticks(net, 8);
        for (int r = 0; r < 4; r++) {
            Check.due("the lowest of those from " + r, net.route(4, 77), r);
            net.stub(r, r % 2, 0, 0, 7);
            ticks(net, 4);
        }
        Check.due("4 itself is nearer by one at last", net.route(4, 77), 4);
    }

    private static void theLastCall() {
        Check.part("at most 512 calls");
        LinkStateNet net = new LinkStateNet();
        for (int a = 0; a < 5; a++) {
            for (int b = 0; b < a; b++) {
                net.link(a, b, 1);
            }
        }
        for (int i = 11; i < 510; i++) {
            net.pass(4);
        }
        Check.due("call 510", net.age(0, 0), (499 * 4 - 4) % 20);
        Check.due("call 511", net.number(0, 4), 2 + (499 * 4 - 4) / 20);
        Check.due("call 512", net.count(0), 20 * 2 * 499);
    }
}
