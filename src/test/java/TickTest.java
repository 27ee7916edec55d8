/** The five steps of a tick, at the edges of their times; the answers are worked out by hand. */
public final class TickTest {
    public static void main(String[] args) {
        expiry();
        expiryAtEachRouter();
        expiryOfWhatIsOwed();
        expiryOfWhatIsOwedToEach();
        silence();
        helloThatSaysNotHeard();
        becomingFull();
        fullToOneThatForgot();
        notFullNotOwed();
        gapBetweenDescriptions();
        refresh();
        sendingAgain();
        lostAck();
        oneLinkATick();
        sameFromBothSides();
        ackForAnOlderOne();
        ackForOneWithAnEarlierBirth();
        ownDescriptionFromBefore();
        ownDescriptionComesBackTwice();
        ackForSomeOfAnUpdate();
        updateToOneThatIsOff();
        silenceByLosses();
        noHellosFromOneThatIsOff();
        arrivalInRisingOrder();
        numberThatIsNotGreater();
        owedAlreadyStaysAsItWasSent();
        Check.end();
    }

    private static void ticks(LinkStateNet net, int n) {
        PromisesTest.ticks(net, n);
    }

    private static void expiry() {
        Check.part("step 1");
        LinkStateNet net = PromisesTest.pair(1, 4);
        net.power(0, false);
        ticks(net, 39);
        Check.due("39 ticks old", net.age(1, 0), 39);
        ticks(net, 1);
        Check.due("40 ticks old", net.age(1, 0), -1);
        Check.due("number", net.number(1, 0), 0);
    }

    private static void expiryAtEachRouter() {
        Check.part("step 1, held by no one");
        for (int gone = 0; gone < 5; gone++) {
            LinkStateNet net = new LinkStateNet();
            for (int r = 0; r < 5; r++) {
                if (r != gone) {
                    net.link(gone, r, 1);
                }
            }
            ticks(net, 5);
            net.power(gone, false);
            ticks(net, 38);
            for (int r = 0; r < 5; r++) {
                Check.due("39 ticks old, " + gone + " at " + r, net.age(r, gone), r == gone ? -1 : 39);
            }
            ticks(net, 1);
            for (int r = 0; r < 5; r++) {
                Check.due("40 ticks old, " + gone + " at " + r, net.age(r, gone), -1);
                Check.due("its own, at " + r, net.age(r, r) >= 0, r != gone);
            }
        }
    }

    /** Router 2 comes to 1 late, and the update with the description of 0 to it is lost. */
    private static void expiryOfWhatIsOwed() {
        Check.part("step 1, owed");
        LinkStateNet net = PromisesTest.pair(1, 4);
        net.power(0, false);
        ticks(net, 34);
        net.link(1, 2, 1);
        ticks(net, 3);
        net.lose(1, 2, 2);
        ticks(net, 1);
        Check.due("1 owes 2 its own and that of 0", net.owed(1, 2), 2);
        ticks(net, 1);
        Check.due("a tick later too", net.owed(1, 2), 2);
        ticks(net, 1);
        Check.due("that of 0 is owed no more", net.owed(1, 2), 1);
        ticks(net, 1);
        Check.due("its own is sent again after 3 ticks", net.owed(1, 2), 0);
        Check.due("that of 0 never came", net.number(2, 0), 0);
        Check.due("that of 1 did", net.listed(2, 1, 2), 1);
    }

    /** As before, with other routers: that of 'gone' is owed by 'debtor' to 'late'. */
    private static void expiryOfWhatIsOwedToEach() {
        Check.part("step 1, owed by no one");
        for (int late = 0; late < 5; late++) {
            int debtor = (late + 1) % 5;
            int gone = (late + 2) % 5;
            LinkStateNet net = new LinkStateNet();
            net.link(gone, debtor, 1);
            ticks(net, 4);
            net.power(gone, false);
            ticks(net, 34);
            net.link(debtor, late, 1);
            ticks(net, 3);
            net.lose(debtor, late, 2);
            ticks(net, 2);
            Check.due("owed to " + late, net.owed(debtor, late), 2);
            ticks(net, 1);
            Check.due("owed no more to " + late, net.owed(debtor, late), 1);
        }
    }

    private static void silence() {
        Check.part("step 3, silence");
        LinkStateNet net = PromisesTest.pair(1, 4);
        net.power(0, false);
        ticks(net, 4);
        Check.due("heard 4 ticks ago", net.neighbour(1, 0), 2);
        Check.due("listed", net.listed(1, 1, 0), 1);
        ticks(net, 1);
        Check.due("heard 5 ticks ago", net.neighbour(1, 0), 0);
        Check.due("not listed", net.listed(1, 1, 0), 0);
    }

    private static void helloThatSaysNotHeard() {
        Check.part("step 2");
        LinkStateNet net = PromisesTest.pair(1, 4);
        net.power(0, false);
        net.power(0, true);
        ticks(net, 1);
        Check.due("no hello yet", net.neighbour(1, 0), 2);
        ticks(net, 1);
        Check.due("0 said that it did not hear 1", net.neighbour(1, 0), 1);
        Check.due("1 said that it heard 0", net.neighbour(0, 1), 2);
    }

    /** As before; the times are told from the start of the object. */
    private static void becomingFull() {
        Check.part("step 3, becoming full");
        LinkStateNet net = PromisesTest.pair(1, 4);
        net.power(0, false);
        net.power(0, true);
        ticks(net, 2);
        Check.due("6: the number 1 of 0 is less new than the number 2 at 1", net.owed(0, 1), 0);
        Check.due("6: 0 is not full to 1", net.owed(1, 0), 0);
        int acks = net.count(3);
        int updates = net.count(1);
        ticks(net, 1);
        Check.due("7: 0 makes number 2", net.number(0, 0), 2);
        Check.due("7: and sends it", net.count(1), updates + 1);
        Check.due("7: but is not full to 1, so nothing happens", net.count(3), acks);
        Check.due("7: still owed", net.owed(0, 1), 1);
        ticks(net, 1);
        Check.due("8: full to both", net.neighbour(1, 0), 2);
        Check.due("8: what is owed stays as it was sent last", net.owed(0, 1), 1);
        Check.due("8: 1 sent its own", net.number(0, 1), 4);
        Check.due("8: only that", net.count(1), updates + 2);
        ticks(net, 1);
        Check.due("9: 1 holds the old number 2", net.age(1, 0), 5);
        ticks(net, 1);
        Check.due("10: the later birth is newer", net.age(1, 0), 3);
        Check.due("10: with the same number", net.number(1, 0), 2);
        Check.due("10: acknowledged", net.owed(0, 1), 0);
    }

    /** Router 1 was off and on between two hellos, and 0 did not get to know of it. */
    private static void fullToOneThatForgot() {
        Check.part("step 3, full to one that forgot");
        LinkStateNet net = PromisesTest.pair(1, 4);
        net.power(1, false);
        net.power(1, true);
        net.lose(1, 0, 1);
        ticks(net, 1);
        Check.due("5: 1 holds its own alone", net.number(1, 0), 0);
        Check.due("5: 0 owes it nothing", net.owed(0, 1), 0);
        ticks(net, 1);
        Check.due("6: 1 is full to 0, as it was", net.neighbour(0, 1), 2);
        Check.due("6: 0 has become full to 1", net.neighbour(1, 0), 2);
        Check.due("6: so 0 owed what 1 lacks, and sent it", net.number(1, 0), 2);
        ticks(net, 1);
        Check.due("7: its own from before too", net.number(1, 1), 3);
        Check.due("7: which is taken by 0", net.number(0, 1), 3);
    }

    /** Router 0 owes 1 a description of 2, so no new one of its own takes its place. */
    private static void notFullNotOwed() {
        Check.part("step 3, not full");
        LinkStateNet net = new LinkStateNet();
        net.link(0, 1, 1);
        net.link(0, 2, 1);
        ticks(net, 6);
        net.power(1, false);
        net.stub(2, 0, 0, 0, 1);
        ticks(net, 1);
        Check.due("7: owed", net.owed(0, 1), 1);
        ticks(net, 3);
        Check.due("10: still owed", net.owed(0, 1), 1);
        ticks(net, 1);
        Check.due("11: 1 is silent", net.neighbour(0, 1), 0);
        Check.due("11: not owed", net.owed(0, 1), 0);
    }

    private static void gapBetweenDescriptions() {
        Check.part("step 4, gap");
        LinkStateNet net = PromisesTest.pair(1, 4);
        net.stub(0, 0, 0, 0, 1);
        ticks(net, 1);
        Check.due("a tick after the last one", net.number(0, 0), 2);
        ticks(net, 1);
        Check.due("two ticks after it", net.number(0, 0), 3);
        ticks(net, 1);
        net.stub(0, 0, 0, 0, 2);
        net.stub(0, 0, 0, 0, 1);
        ticks(net, 4);
        Check.due("changed and changed back", net.number(0, 0), 3);
    }

    private static void refresh() {
        Check.part("step 4, refresh");
        LinkStateNet net = PromisesTest.pair(1, 4);
        ticks(net, 16);
        Check.due("one alone, 19 ticks old", net.number(2, 2), 1);
        ticks(net, 1);
        Check.due("one alone, 20 ticks old", net.number(2, 2), 2);
        ticks(net, 2);
        Check.due("19 ticks old", net.number(0, 0), 2);
        ticks(net, 1);
        Check.due("20 ticks old", net.number(0, 0), 3);
        Check.due("and sent", net.number(1, 0), 3);
        Check.due("with its birth", net.age(1, 0), 0);
    }

    private static void sendingAgain() {
        Check.part("step 5, sending again");
        LinkStateNet net = PromisesTest.pair(1, 4);
        ticks(net, 2);
        net.stub(0, 0, 0, 0, 1);
        net.lose(0, 1, 1);
        ticks(net, 1);
        Check.due("7: sent", net.count(1), 3);
        Check.due("7: lost", net.count(4), 1);
        ticks(net, 2);
        Check.due("9: not again", net.count(1), 3);
        Check.due("9: so 1 holds the old one", net.number(1, 0), 2);
        ticks(net, 1);
        Check.due("10: again", net.count(1), 4);
        Check.due("10: 1 holds the new one", net.number(1, 0), 3);
        Check.due("10: descriptions in updates", net.count(2), 4);
    }

    private static void lostAck() {
        Check.part("step 5, a lost ack");
        LinkStateNet net = PromisesTest.pair(1, 4);
        ticks(net, 2);
        net.stub(0, 0, 0, 0, 1);
        net.lose(1, 0, 1);
        ticks(net, 1);
        Check.due("7: it came", net.number(1, 0), 3);
        Check.due("7: its ack was sent", net.count(3), 3);
        Check.due("7: and lost", net.count(4), 1);
        Check.due("7: so it is owed", net.owed(0, 1), 1);
        Check.due("7: installed", net.count(6), 3);
        ticks(net, 3);
        Check.due("10: acknowledged again", net.count(3), 4);
        Check.due("10: not owed", net.owed(0, 1), 0);
        Check.due("10: not installed again", net.count(6), 3);
    }

    /** Routers in a row: what is sent on is as it was before the step, also in rising order. */
    private static void oneLinkATick() {
        Check.part("step 5, one link a tick");
        LinkStateNet net = new LinkStateNet();
        for (int r = 0; r < 4; r++) {
            net.link(r, r + 1, 1);
        }
        ticks(net, 12);
        int number = net.number(0, 0);
        net.stub(0, 0, 0, 0, 1);
        for (int tick = 1; tick <= 4; tick++) {
            ticks(net, 1);
            for (int r = 1; r < 5; r++) {
                int due = r <= tick ? number + 1 : number;
                Check.due("router " + r + " after " + tick, net.number(r, 0), due);
            }
        }
        Check.due("five second descriptions and this one came to four each", net.count(6), 5 * 4 + 4);
    }

    private static void sameFromBothSides() {
        Check.part("step 5, case (c)");
        LinkStateNet net = new LinkStateNet();
        net.link(0, 1, 1);
        net.link(1, 2, 1);
        net.link(0, 2, 1);
        ticks(net, 10);
        int updates = net.count(1);
        int acks = net.count(3);
        int installed = net.count(6);
        net.stub(0, 0, 0, 0, 1);
        ticks(net, 1);
        Check.due("two updates", net.count(1), updates + 2);
        Check.due("1 owes it to 2", net.owed(1, 2), 1);
        Check.due("2 owes it to 1", net.owed(2, 1), 1);
        Check.due("1 does not owe it to 0", net.owed(1, 0), 0);
        ticks(net, 1);
        Check.due("two more that cross", net.count(1), updates + 4);
        Check.due("all acknowledged", net.count(3), acks + 4);
        Check.due("none owed by 1", net.owed(1, 2), 0);
        Check.due("none owed by 2", net.owed(2, 1), 0);
        Check.due("installed twice", net.count(6), installed + 2);
        net.stub(0, 0, 0, 0, 2);
        net.lose(2, 1, 9);
        ticks(net, 2);
        Check.due("the ack of 2 is lost, its update too", net.owed(1, 2), 1);
        Check.due("but what it got from 1 it does not owe to 1", net.owed(2, 1), 0);
    }

    /** While 3 acknowledges a description of 0, router 2 has got a newer one already. */
    private static void ackForAnOlderOne() {
        Check.part("step 5, an ack for an older one");
        LinkStateNet net = new LinkStateNet();
        net.link(0, 2, 1);
        ticks(net, 6);
        net.link(2, 3, 1);
        ticks(net, 3);
        net.stub(0, 0, 0, 0, 1);
        ticks(net, 1);
        Check.due("2 and 3 are full", net.neighbour(2, 3), 2);
        Check.due("2 holds the newer one", net.number(2, 0), 3);
        Check.due("3 holds the older one", net.number(3, 0), 2);
        Check.due("2 owes the newer one", net.owed(2, 3), 1);
        ticks(net, 1);
        Check.due("3 holds the newer one", net.number(3, 0), 3);
        Check.due("2 owes none", net.owed(2, 3), 0);
    }

    /** As before, but the newer one has the same number: router 0 began anew without its link. */
    private static void ackForOneWithAnEarlierBirth() {
        Check.part("step 5, an ack for one with an earlier birth");
        LinkStateNet net = new LinkStateNet();
        net.link(0, 2, 1);
        ticks(net, 4);
        net.link(0, 2, 0);
        net.power(0, false);
        net.power(0, true);
        net.link(0, 2, 1);
        net.link(2, 3, 1);
        ticks(net, 2);
        net.stub(0, 0, 0, 0, 1);
        ticks(net, 1);
        Check.due("7: 0 holds number 2", net.number(0, 0), 2);
        Check.due("7: 2 holds another number 2", net.age(2, 0), 3);
        ticks(net, 1);
        Check.due("8: 2 holds the later one", net.age(2, 0), 1);
        Check.due("8: 3 holds the earlier one", net.age(3, 0), 4);
        Check.due("8: 2 owes the later one", net.owed(2, 3), 1);
        ticks(net, 1);
        Check.due("9: 3 holds the later one", net.age(3, 0), 2);
        Check.due("9: with the same number", net.number(3, 0), 2);
    }

    static LinkStateNet pairWithNumberFour(int r) {
        LinkStateNet net = PromisesTest.pair(1, 4);
        net.stub(r, 0, 0, 0, 1);
        ticks(net, 2);
        net.stub(r, 0, 0, 0, 2);
        ticks(net, 2);
        net.power(r, false);
        ticks(net, 6);
        net.power(r, true);
        ticks(net, 1);
        return net;
    }

    private static void ownDescriptionFromBefore() {
        Check.part("step 5, cases (a) and (d)");
        LinkStateNet net = pairWithNumberFour(0);
        Check.due("15: a new start", net.number(0, 0), 1);
        Check.due("15: 1 holds the one from before", net.number(1, 0), 4);
        Check.due("15: which lists 1", net.listed(1, 0, 1), 1);
        Check.due("15: but 1 does not list 0", net.distance(1, 0), -1);
        ticks(net, 2);
        int acks = net.count(3);
        ticks(net, 1);
        Check.due("18: full", net.neighbour(0, 1), 2);
        Check.due("18: no ack for case (d) alone", net.count(3), acks + 1);
        Check.due("18: 0 lists 1", net.number(0, 0), 2);
        Check.due("18: 1 does not take that", net.number(1, 0), 4);
        Check.due("18: nor acknowledge it", net.owed(0, 1), 1);
        Check.due("18: but 0 acknowledges the one from before", net.owed(1, 0), 0);
        Check.due("18: it does not hold it", net.number(0, 0), 2);
        Check.due("18: the one from before makes the edge", net.distance(1, 0), 1);
        ticks(net, 1);
        Check.due("19: too early for a new one", net.number(0, 0), 2);
        ticks(net, 1);
        Check.due("20: pressed, it makes a newer one", net.number(0, 0), 5);
        Check.due("20: which 1 takes", net.number(1, 0), 5);
        Check.due("20: and acknowledges", net.owed(0, 1), 0);
        Check.due("20: and holds", net.age(1, 0), 0);
        ticks(net, 4);
        Check.due("24: it is pressed no more", net.number(0, 0), 5);
    }

    /** Now the lower router holds the one from before, so its update is the first to arrive. */
    private static void ownDescriptionComesBackTwice() {
        Check.part("step 5, case (d) of one not owed");
        LinkStateNet net = pairWithNumberFour(1);
        ticks(net, 3);
        Check.due("18: 1 made number 2", net.number(1, 1), 2);
        Check.due("18: 0 owes its newer one again", net.owed(0, 1), 1);
        int updates = net.count(1);
        int acks = net.count(3);
        ticks(net, 1);
        Check.due("19: never sent, so it is sent now", net.count(1), updates + 1);
        Check.due("19: and acknowledged", net.count(3), acks + 1);
        Check.due("19: not owed", net.owed(0, 1), 0);
        ticks(net, 1);
        Check.due("20: pressed", net.number(1, 1), 5);
        Check.due("20: taken", net.number(0, 1), 5);
    }

    /** Router 0 comes back with a new neighbour 2; of its update 1 takes that of 2, but not that of 0. */
    private static void ackForSomeOfAnUpdate() {
        Check.part("step 5, an ack for some of an update");
        LinkStateNet net = pairWithNumberFour(0);
        net.link(0, 2, 1);
        net.lose(0, 1, 1);
        net.lose(1, 0, 1);
        ticks(net, 4);
        Check.due("19: 0 and 2 are full", net.neighbour(0, 2), 2);
        Check.due("19: 0 and 1 are not", net.neighbour(0, 1), 1);
        int updates = net.count(1);
        int descriptions = net.count(2);
        ticks(net, 1);
        Check.due("20: 0 and 1 are full", net.neighbour(0, 1), 2);
        Check.due("20: updates from 0 to 1 and 2, and from 1 to 0", net.count(1), updates + 3);
        Check.due("20: of two, one and two", net.count(2), descriptions + 5);
        Check.due("20: 1 takes that of 2", net.listed(1, 2, 0), 1);
        Check.due("20: it holds a newer one of 0", net.number(1, 0), 4);
        Check.due("20: so that is owed still", net.owed(0, 1), 1);
        Check.due("20: 0 acknowledges both", net.owed(1, 0), 0);
    }

    private static void updateToOneThatIsOff() {
        Check.part("step 5, to one that is off");
        LinkStateNet net = PromisesTest.pair(1, 4);
        net.power(1, false);
        net.stub(0, 0, 0, 0, 1);
        ticks(net, 2);
        Check.due("6: the hello and the update are lost", net.count(4), 2);
        Check.due("6: owed", net.owed(0, 1), 1);
        ticks(net, 2);
        Check.due("8: full, but not sent again yet", net.count(1), 3);
        ticks(net, 1);
        Check.due("9: not full", net.owed(0, 1), 0);
        Check.due("9: nothing sent", net.count(1), 3);
    }

    /** Both hellos of 0 after tick 4 are lost, then they arrive again. */
    private static void silenceByLosses() {
        Check.part("step 3, not heard nor mutual");
        LinkStateNet net = PromisesTest.pair(1, 4);
        net.lose(0, 1, 2);
        ticks(net, 4);
        Check.due("8: heard last at 4", net.neighbour(1, 0), 2);
        Check.due("8: so 1 is full to 0", net.neighbour(0, 1), 2);
        ticks(net, 1);
        Check.due("9: heard last at 4", net.neighbour(1, 0), 0);
        Check.due("9: 0 does not know of it yet", net.neighbour(0, 1), 2);
        ticks(net, 1);
        Check.due("10: 0 says that it hears 1", net.neighbour(1, 0), 2);
        Check.due("10: 1 says that it did not hear 0", net.neighbour(0, 1), 1);
        ticks(net, 2);
        Check.due("12: full again", net.neighbour(0, 1), 2);
        net = PromisesTest.pair(1, 4);
        net.lose(0, 1, 1);
        ticks(net, 8);
        Check.due("one lost hello does no harm", net.neighbour(1, 0), 2);
        Check.due("nor needs another description", net.number(1, 1), 2);
    }

    private static void noHellosFromOneThatIsOff() {
        Check.part("step 2, every router that is on");
        LinkStateNet net = PromisesTest.pair(1, 0);
        net.power(1, false);
        ticks(net, 2);
        Check.due("only 0 sends one", net.count(0), 1);
        Check.due("1 hears nothing", net.neighbour(1, 0), 0);
        Check.due("0 hears nothing", net.neighbour(0, 1), 0);
        net.power(0, false);
        ticks(net, 2);
        Check.due("none sends one", net.count(0), 1);
    }

    /** Of the origin 4 router 0 holds number 2 and router 1 number 3, when both become full to 2. */
    private static void arrivalInRisingOrder() {
        Check.part("step 5, they arrive in the same order");
        LinkStateNet net = new LinkStateNet();
        net.link(0, 4, 1);
        net.link(1, 4, 1);
        ticks(net, 6);
        net.link(0, 4, 0);
        net.link(0, 2, 1);
        net.link(1, 2, 1);
        ticks(net, 3);
        Check.due("9: at 0", net.number(0, 4), 2);
        Check.due("9: at 1", net.number(1, 4), 3);
        int installed = net.count(6);
        ticks(net, 1);
        Check.due("10: 2 installs three from 0, then two newer ones from 1; 0, 1 and 4 one each",
            net.count(6), installed + 3 + 2 + 3);
        Check.due("10: 2 holds the newer one", net.number(2, 4), 3);
        Check.due("10: which it owes to 0 with the newer one of 1", net.owed(2, 0), 2);
        Check.due("10: to 1 it owes the newer one of 0", net.owed(2, 1), 1);
    }

    /** Of router 0, when it was put off, 1 held number 4 and 2 number 3: both are newer than its new one. */
    private static void numberThatIsNotGreater() {
        Check.part("step 5, case (a) with a number that is not greater");
        LinkStateNet net = new LinkStateNet();
        net.link(0, 1, 1);
        net.link(0, 2, 1);
        ticks(net, 6);
        net.stub(0, 0, 0, 0, 1);
        ticks(net, 2);
        net.stub(0, 0, 0, 0, 2);
        net.lose(0, 2, 9);
        ticks(net, 1);
        Check.due("9: at 1", net.number(1, 0), 4);
        Check.due("9: at 2", net.number(2, 0), 3);
        net.power(0, false);
        ticks(net, 6);
        net.lose(0, 2, 0);
        net.power(0, true);
        ticks(net, 3);
        Check.due("18: full to 1", net.neighbour(1, 0), 2);
        Check.due("18: full to 2", net.neighbour(2, 0), 2);
        Check.due("18: number 2 of 0", net.number(0, 0), 2);
        ticks(net, 2);
        Check.due("20: number 4 came first, so 3 was not greater", net.number(0, 0), 5);
        Check.due("20: newer than that at 1", net.age(1, 0), 0);
        Check.due("20: newer than that at 2", net.age(2, 0), 0);
    }

    /** In tick 20 router 1 sends 0 its number 4 from before, which is lost; in tick 21 comes number 2 of 0. */
    private static void owedAlreadyStaysAsItWasSent() {
        Check.part("step 5, case (d) of one owed already");
        LinkStateNet net = pairWithNumberFour(0);
        ticks(net, 2);
        net.lose(0, 1, 1);
        ticks(net, 1);
        Check.due("18: 1 is full to 0", net.neighbour(0, 1), 2);
        Check.due("18: 0 is not full to 1", net.neighbour(1, 0), 1);
        ticks(net, 1);
        net.lose(1, 0, 2);
        ticks(net, 1);
        Check.due("20: full", net.neighbour(1, 0), 2);
        Check.due("20: 1 owes 0 both", net.owed(1, 0), 2);
        int updates = net.count(1);
        ticks(net, 1);
        Check.due("21: 0 sends its number 2 again", net.count(1), updates + 1);
        Check.due("21: 1 owes 0 what it owed", net.owed(1, 0), 2);
        ticks(net, 1);
        Check.due("22: but sent last at 20", net.count(1), updates + 1);
        ticks(net, 1);
        Check.due("23: so sent again now", net.count(1), updates + 2);
        Check.due("23: and acknowledged", net.owed(1, 0), 0);
        ticks(net, 1);
        Check.due("24: pressed", net.number(0, 0), 5);
    }
}
