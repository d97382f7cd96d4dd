/** Boundary cases of promises 21 to 37: one method for each sentence that names one. */
public final class BoundsOfAnswersTest extends Bounds {
    public static void main(String[] args) {
        countWhat();
        linkThatDoesNotExist();
        linkWhat();
        linkFirst();
        linkWithoutCommodity();
        linkNotScheduled();
        linkServedLater();
        conflictsOfALink();
        flowThatDoesNotExist();
        flowWhat();
        flowWithoutDelays();
        hopsOfNodes();
        maxFlowOfNodes();
        maxFlowLeastAndGreatest();
        cutSideOfNodes();
        cutSideSmallest();
        overloadedByOne();
        queueOfNodes();
        shadowOfNodes();
        packetOfNodes();
        packetWhat();
        packetThatIsNot();
        packetChecksInOrder();
        totalWhat();
        totalsOfNothing();
        totalsOfTheGreatest();
        fullestOfNone();
        fullestOfSeveral();
        urgentOfNone();
        urgentNotNegative();
        urgentIsTheLeast();
        meanDelayOfAFlow();
        meanDelayOfNone();
        meanDelayInLowestTerms();
        scheduleOfAScheduler();
        scheduleOfNothing();
        Expect.end("BoundsOfAnswersTest");
    }

    // ---- Promises 21 to 28

    private static void countWhat() {
        BUSY.refusesEach("what", ARGUMENT, Twins.outside(0, 6), PressureNet::count);
        int[] due = {4, 5, 3, 0, 20, 1, 1};
        for (int what = 0; what <= 6; what++) {
            int w = what;
            BUSY.asks("count " + w, due[w], x -> x.count(w));
        }
        BARE.asks("no links", 0, x -> x.count(1));
        BARE.asks("no flows", 0, x -> x.count(2));
        WIDE.asks("14 links", 14, x -> x.count(1));
        WIDE.asks("6 flows", 6, x -> x.count(2));
    }

    private static void linkThatDoesNotExist() {
        BUSY.refusesEach("link", INDEX, Twins.outside(0, 4), (x, v) -> x.link(v, 0));
        BUSY.refusesEach("link", INDEX, Twins.outside(0, 4), (x, v) -> x.link(v, 7));
        WIDE.refusesEach("link", INDEX, Twins.outside(0, 13), (x, v) -> x.link(v, 5));
        BARE.refuses("link 0 of none", INDEX, x -> x.link(0, 0));
        WIDE.asks("link 13", 3, x -> x.link(13, 0));
        BUSY.asks("link 0", 1, x -> x.link(0, 1));
    }

    private static void linkWhat() {
        BUSY.refusesEach("what", ARGUMENT, Twins.outside(0, 7), (x, v) -> x.link(0, v));
        BUSY.refusesEach("what", ARGUMENT, Twins.outside(0, 7), (x, v) -> x.link(4, v));
        BUSY.asks("what 0", 1, x -> x.link(4, 0));
        WIDE.asks("what 7", 0, x -> x.link(13, 7));
        for (int what = 0; what <= 7; what++) {
            int w = what;
            BUSY.asks("what " + w, Twins.busy().link(2, w), x -> x.link(2, w));
        }
    }

    private static void linkFirst() {
        BUSY.refuses("link 5, what 8", INDEX, x -> x.link(5, 8));
        BUSY.refuses("link -1, what -1", INDEX, x -> x.link(-1, -1));
    }

    private static void linkWithoutCommodity() {
        for (int link = 0; link < 14; link++) {
            int k = link;
            WIDE.asks("commodity", PressureNet.NONE, x -> x.link(k, 4));
            WIDE.asks("weight", 0, x -> x.link(k, 5));
            WIDE.asks("scheduled", 0, x -> x.link(k, 6));
            WIDE.asks("would carry", 0, x -> x.link(k, 7));
        }
    }

    private static void linkNotScheduled() {
        PressureNet net = Expect.net("net 4;link 0 1 4;link 2 3 3;conflict 0 1;flow 0 1 0;flow 2 3 0");
        net.inject(0, 6);
        net.inject(1, 8);
        Expect.same("link 0, as heavy, the lower number", net.link(0, 6), 1);
        Expect.same("it would carry", net.link(0, 7), 4);
        Expect.same("link 1 has a weight", net.link(1, 5), 24);
        Expect.same("not scheduled", net.link(1, 6), 0);
        Expect.same("it would carry none", net.link(1, 7), 0);
        net.inject(1, 1);
        Expect.same("link 1 is heavier by 3", net.link(1, 6), 1);
        Expect.same("it would carry", net.link(1, 7), 3);
        Expect.same("link 0 would carry none", net.link(0, 7), 0);
    }

    private static void linkServedLater() {
        PressureNet net = Expect.net("net 4;link 0 1 5;link 0 2 5;link 0 3 5;flow 0 3 0;flow 0 1 0");
        int[][] cases = {{1, 1, 0, 0}, {5, 5, 0, 0}, {6, 5, 1, 0}, {10, 5, 5, 0}, {11, 5, 5, 1}, {15, 5, 5, 5}, {16, 5, 5, 5}};
        for (int[] c : cases) {
            net.inject(0, c[0]);
            for (int k = 0; k < 3; k++) {
                Expect.same("link " + k + " of " + c[0] + " packets", net.link(k, 7), c[k + 1]);
            }
            net.flush(0, 3);
        }
        // The bias gives each of the links 0 and 2 the queue for the node to which it leads, and link 1 none.
        net.set(2, 20);
        net.inject(0, 6);
        net.inject(1, 9);
        Expect.same("another queue", net.link(0, 4), 1);
        Expect.same("5 of the 9", net.link(0, 7), 5);
        Expect.same("link 1 is not scheduled", net.link(1, 7), 0);
        Expect.same("the queue that nobody else serves", net.link(2, 4), 3);
        Expect.same("5 of the 6", net.link(2, 7), 5);
    }

    private static void conflictsOfALink() {
        BUSY.refusesEach("link", INDEX, Twins.outside(0, 4), PressureNet::conflicts);
        WIDE.refusesEach("link", INDEX, Twins.outside(0, 13), PressureNet::conflicts);
        BARE.refuses("link 0 of none", INDEX, x -> x.conflicts(0));
        int[] due = {2, 1, 16, 16, 12};
        for (int link = 0; link < 5; link++) {
            int k = link;
            BUSY.asks("conflicts of " + k, due[k], x -> x.conflicts(k));
        }
        WIDE.asks("none", 0, x -> x.conflicts(13));
        PressureNet net = Twins.wide();
        for (int k = 0; k < 13; k++) {
            net.setConflict(13, k, true);
        }
        Expect.same("all the others", net.conflicts(13), (1 << 13) - 1);
        Expect.same("the one", net.conflicts(0), 1 << 13);
    }

    private static void flowThatDoesNotExist() {
        BUSY.refusesEach("flow", INDEX, Twins.outside(0, 2), (x, v) -> x.flow(v, 0));
        WIDE.refusesEach("flow", INDEX, Twins.outside(0, 5), (x, v) -> x.flow(v, 10));
        BARE.refuses("flow 0 of none", INDEX, x -> x.flow(0, 0));
        BUSY.refuses("flow 3, what 11", INDEX, x -> x.flow(3, 11));
        BUSY.refuses("flow -1, what -1", INDEX, x -> x.flow(-1, -1));
        WIDE.asks("flow 5", 5, x -> x.flow(5, 0));
    }

    private static void flowWhat() {
        BUSY.refusesEach("what", ARGUMENT, Twins.outside(0, 10), (x, v) -> x.flow(0, v));
        BUSY.refusesEach("what", ARGUMENT, Twins.outside(0, 10), (x, v) -> x.flow(2, v));
        BUSY.asks("what 0", 1, x -> x.flow(1, 0));
        WIDE.asks("what 10", 0, x -> x.flow(5, 10));
    }

    private static void flowWithoutDelays() {
        PressureNet net = Expect.net("net 2;flow 0 1 300 budget 3");
        net.run(50);
        Expect.same("none was delivered", net.flow(0, 6), 0);
        Expect.same("the sum of no delays", net.flow(0, 9), 0);
        Expect.same("the greatest of no delays", net.flow(0, 10), 0);
        FULL.asks("the greatest of no delays", 0, x -> x.flow(0, 10));
    }

    private static void hopsOfNodes() {
        BUSY.refusesEach("node", INDEX, Twins.outside(0, 3), (x, v) -> x.hops(v, 0));
        BUSY.refusesEach("destination", INDEX, Twins.outside(0, 3), (x, v) -> x.hops(0, v));
        BUSY.refuses("both", INDEX, x -> x.hops(4, 4));
        WIDE.refusesEach("node", INDEX, Twins.outside(0, 9), (x, v) -> x.hops(v, v));
        BARE.refusesEach("destination", INDEX, Twins.outside(0, 1), (x, v) -> x.hops(1, v));
        BUSY.asks("to itself", 0, x -> x.hops(3, 3));
        BARE.asks("no way", 2, x -> x.hops(0, 1));
        WIDE.asks("9 to 0", 1, x -> x.hops(9, 0));
    }

    private static void maxFlowOfNodes() {
        BUSY.refusesEach("from", INDEX, Twins.outside(0, 3), (x, v) -> x.maxFlow(v, 1));
        BUSY.refusesEach("to", INDEX, Twins.outside(0, 3), (x, v) -> x.maxFlow(1, v));
        WIDE.refusesEach("to", INDEX, Twins.outside(0, 9), (x, v) -> x.maxFlow(1, v));
        BUSY.refuses("nodes first", INDEX, x -> x.maxFlow(4, 4));
        BUSY.refuses("nodes first", INDEX, x -> x.maxFlow(-1, -1));
        BUSY.refusesEach("the same", ARGUMENT, Twins.values(0, 1, 2, 3), (x, v) -> x.maxFlow(v, v));
        BUSY.asks("0 to 3", 1, x -> x.maxFlow(0, 3));
        BUSY.asks("3 to 0", 5, x -> x.maxFlow(3, 0));
        WIDE.asks("9 to 0", 5, x -> x.maxFlow(9, 0));
    }

    private static void maxFlowLeastAndGreatest() {
        BARE.asks("no links", 0, x -> x.maxFlow(0, 1));
        PressureNet one = Expect.net("net 2;link 0 1 5");
        Expect.same("one link", one.maxFlow(0, 1), 5);
        Expect.same("the other way", one.maxFlow(1, 0), 0);
        PressureNet net = Expect.net("net 9");
        for (int n = 1; n < 8; n++) {
            net.addLink(0, n, 5);
            net.addLink(n, 8, 5);
        }
        Expect.same("7 ways of 5", net.maxFlow(0, 8), 35);
        for (int k = 1; k < 14; k++) {
            net.setConflict(0, k, true);
        }
        Expect.same("conflicts do not matter", net.maxFlow(0, 8), 35);
        PressureNet star = Expect.net("net 10;link 0 9 5");
        for (int n = 1; n < 7; n++) {
            star.addLink(0, n, 5);
            star.addLink(n, 9, 5);
        }
        Expect.same("a link and 6 ways", star.maxFlow(0, 9), 35);
        // The way 0, 1, 2, 3, found or not, must not take what the two others need.
        for (int capacity = 1; capacity <= 5; capacity++) {
            PressureNet back = Expect.net("net 6;link 0 1 5;link 1 2 5;link 2 5 5;link 0 3 5;link 3 2 5;link 1 4 5");
            back.addLink(4, 5, capacity);
            Expect.same("a way is given back", back.maxFlow(0, 5), 5 + capacity);
            Expect.same("its side", back.cutSide(0, 5), capacity == 5 ? 1 : 0b11111);
        }
    }

    private static void cutSideOfNodes() {
        BUSY.refusesEach("from", INDEX, Twins.outside(0, 3), (x, v) -> x.cutSide(v, 1));
        BUSY.refusesEach("to", INDEX, Twins.outside(0, 3), (x, v) -> x.cutSide(1, v));
        WIDE.refusesEach("to", INDEX, Twins.outside(0, 9), (x, v) -> x.cutSide(1, v));
        BUSY.refuses("nodes first", INDEX, x -> x.cutSide(4, 4));
        BUSY.refuses("nodes first", INDEX, x -> x.cutSide(-1, -1));
        BUSY.refusesEach("the same", ARGUMENT, Twins.values(0, 1, 2, 3), (x, v) -> x.cutSide(v, v));
        BUSY.asks("0 to 3", 0b0011, x -> x.cutSide(0, 3));
        BUSY.asks("3 to 0", 0b1000, x -> x.cutSide(3, 0));
    }

    private static void cutSideSmallest() {
        BARE.asks("no links: the node alone", 1, x -> x.cutSide(0, 1));
        BARE.asks("no links: the node alone", 2, x -> x.cutSide(1, 0));
        PressureNet line = Expect.net("net 4;link 0 1 2;link 1 2 2;link 2 3 2");
        Expect.same("of three the smallest", line.cutSide(0, 3), 0b0001);
        line.setCapacity(0, 3);
        Expect.same("of two the smaller", line.cutSide(0, 3), 0b0011);
        line.setCapacity(1, 3);
        Expect.same("one only", line.cutSide(0, 3), 0b0111);
        PressureNet out = Expect.net("net 4;link 0 1 2;link 0 3 5;link 3 0 5;link 1 2 1");
        Expect.same("nodes beside the way belong to it", out.cutSide(0, 2), 0b1011);
        Expect.same("no way: all that can be reached", out.cutSide(3, 2) | out.cutSide(2, 3), 0b1111);
    }

    private static void overloadedByOne() {
        PressureNet net = Expect.net("net 3;link 0 1 2;flow 0 1 200;flow 1 0 0;flow 1 0 1");
        Expect.same("200 of 200, 0 of 0, 1 of 0", net.overloaded(), 0b100);
        net.setRate(0, 201);
        Expect.same("201 of 200", net.overloaded(), 0b101);
        net.setCapacity(0, 3);
        net.setRate(0, 300);
        net.setRate(2, 0);
        Expect.same("300 of 300", net.overloaded(), 0);
        BARE.asks("no flows", 0, PressureNet::overloaded);
        PressureNet all = Expect.net("net 2");
        for (int i = 0; i < 6; i++) {
            all.addFlow(0, 1, 300, 0);
        }
        Expect.same("all six", all.overloaded(), 63);
        FULL.asks("none", 0, PressureNet::overloaded);
    }

    // ---- Promises 29 to 35

    private static void queueOfNodes() {
        BUSY.refusesEach("node", INDEX, Twins.outside(0, 3), (x, v) -> x.queue(v, 1));
        BUSY.refusesEach("destination", INDEX, Twins.outside(0, 3), (x, v) -> x.queue(1, v));
        WIDE.refusesEach("destination", INDEX, Twins.outside(0, 9), (x, v) -> x.queue(1, v));
        BUSY.refuses("nodes first", INDEX, x -> x.queue(4, 4));
        BUSY.refuses("nodes first", INDEX, x -> x.queue(-1, -1));
        BUSY.refusesEach("the same", ARGUMENT, Twins.values(0, 1, 2, 3), (x, v) -> x.queue(v, v));
        FULL.asks("100 packets", 100, x -> x.queue(0, 9));
        FULL.asks("an empty one", 0, x -> x.queue(9, 0));
        PressureNet net = Expect.net("net 2;flow 0 1 0");
        for (int i = 0; i < 6; i++) {
            net.inject(0, 100);
        }
        Expect.same("all 500", net.queue(0, 1), 500);
    }

    private static void shadowOfNodes() {
        BUSY.refusesEach("node", INDEX, Twins.outside(0, 3), (x, v) -> x.shadow(v, 1));
        BUSY.refusesEach("destination", INDEX, Twins.outside(0, 3), (x, v) -> x.shadow(1, v));
        WIDE.refusesEach("destination", INDEX, Twins.outside(0, 9), (x, v) -> x.shadow(1, v));
        BUSY.refuses("nodes first", INDEX, x -> x.shadow(4, 4));
        BUSY.refuses("nodes first", INDEX, x -> x.shadow(-1, -1));
        BUSY.refusesEach("the same", ARGUMENT, Twins.values(0, 1, 2, 3), (x, v) -> x.shadow(v, v));
        FULL.asks("none of packets", 0, x -> x.shadow(0, 9));
        PressureNet net = Expect.net("net 2;flow 1 0 300;excess 50");
        net.run(50);
        Expect.same("225", net.shadow(1, 0), 225);
        Expect.same("0", net.shadow(0, 1), 0);
    }

    private static void packetOfNodes() {
        BUSY.refusesEach("node", INDEX, Twins.outside(0, 3), (x, v) -> x.packet(v, 1, 0, 0));
        BUSY.refusesEach("destination", INDEX, Twins.outside(0, 3), (x, v) -> x.packet(1, v, 0, 0));
        FULL.refusesEach("destination", INDEX, Twins.outside(0, 9), (x, v) -> x.packet(0, v, 0, 0));
        BUSY.refusesEach("the same", ARGUMENT, Twins.values(0, 1, 2, 3), (x, v) -> x.packet(v, v, 0, 0));
    }

    private static void packetWhat() {
        FULL.refusesEach("what", ARGUMENT, Twins.outside(0, 3), (x, v) -> x.packet(0, 9, 0, v));
        FULL.refusesEach("what", ARGUMENT, Twins.outside(0, 3), (x, v) -> x.packet(4, 9, 99, v));
        int[] due = {4, 0, 0, 16};
        for (int what = 0; what <= 3; what++) {
            int w = what;
            FULL.asks("what " + w, due[w], x -> x.packet(4, 9, 99, w));
        }
    }

    private static void packetThatIsNot() {
        FULL.refusesEach("index", ELEMENT, Twins.outside(0, 99), (x, v) -> x.packet(0, 9, v, 0));
        FULL.refusesEach("index in an empty queue", ELEMENT, Twins.values(-1, 0, 1), (x, v) -> x.packet(9, 0, v, 0));
        BARE.refuses("no packets at all", ELEMENT, x -> x.packet(0, 1, 0, 3));
        FULL.asks("the first one", 1, x -> x.packet(1, 9, 0, 0));
        FULL.asks("the last one", 1, x -> x.packet(1, 9, 99, 0));
        PressureNet net = Expect.net("net 2;flow 0 1 0;flow 0 1 0");
        for (int i = 0; i < 4; i++) {
            net.inject(0, 100);
        }
        net.inject(0, 99);
        net.inject(1, 100);
        Expect.same("the last but one of 500", net.packet(0, 1, 498, 0), 0);
        Expect.same("the last of 500", net.packet(0, 1, 499, 0), 1);
        Expect.fails("one behind 500", ELEMENT, () -> net.packet(0, 1, 500, 0));
    }

    private static void packetChecksInOrder() {
        BUSY.refuses("nodes before the same", INDEX, x -> x.packet(4, 4, 0, 0));
        BUSY.refuses("nodes before what", INDEX, x -> x.packet(0, 4, 0, 4));
        BUSY.refuses("nodes before the index", INDEX, x -> x.packet(-1, 0, -1, 0));
        BUSY.refuses("the same before the index", ARGUMENT, x -> x.packet(2, 2, -1, 0));
        BUSY.refuses("what before the index", ARGUMENT, x -> x.packet(0, 2, 0, 4));
        BUSY.refuses("what before the index", ARGUMENT, x -> x.packet(0, 2, 500, -1));
        BUSY.refuses("the same and what", ARGUMENT, x -> x.packet(2, 2, 500, -1));
    }

    private static void totalWhat() {
        BUSY.refusesEach("what", ARGUMENT, Twins.outside(0, 5), PressureNet::total);
        BARE.refusesEach("what", ARGUMENT, Twins.outside(0, 5), PressureNet::total);
        BUSY.asks("what 0", 5, x -> x.total(0));
        BUSY.asks("what 5", Twins.busy().total(5), x -> x.total(5));
    }

    private static void totalsOfNothing() {
        for (int what = 0; what <= 5; what++) {
            int w = what;
            BARE.asks("total " + w, 0, x -> x.total(w));
            WIDE.asks("total " + w, 0, x -> x.total(w));
        }
    }

    private static void totalsOfTheGreatest() {
        FULL.asks("packets", 500, x -> x.total(1));
        FULL.asks("no slot was there", 0, x -> x.total(2));
        FULL.asks("squares of the queues", 5 * 100 * 100, x -> x.total(4));
        PressureNet net = Expect.net("net 2;excess 50");
        for (int i = 0; i < 6; i++) {
            net.addFlow(i % 2, 1 - i % 2, 300, 0);
        }
        for (int i = 0; i < 199; i++) {
            net.run(50);
        }
        net.run(49);
        Expect.same("slot", net.total(0), 9999);
        Expect.same("peak", net.total(2), 500);
        long shadow = 3 * 44995;
        Expect.same("shadows", net.total(3), 2 * shadow);
        Expect.same("squares of the shadows", net.total(5), 2 * shadow * shadow);
        Expect.same("more than an int holds", net.total(5) > Integer.MAX_VALUE ? 1 : 0, 1);
        Expect.same("resetShadows tells the sum", net.resetShadows(), 2 * shadow);
    }

    private static void fullestOfNone() {
        BARE.refuses("no flows", ELEMENT, PressureNet::fullest);
        WIDE.refuses("no packets", ELEMENT, PressureNet::fullest);
        new Twins(BoundsOfAnswersTest::emptied).refuses("all are gone", ELEMENT, PressureNet::fullest);
    }

    private static PressureNet emptied() {
        PressureNet net = Expect.net("net 3;link 0 1 5;flow 0 1 300");
        net.run(3);
        return net;
    }

    private static void fullestOfSeveral() {
        FULL.asks("the lowest node of five", 9, PressureNet::fullest);
        PressureNet net = Expect.net("net 10;flow 9 8 0;flow 9 0 0;flow 0 9 0;flow 0 1 0");
        net.inject(0, 1);
        Expect.same("9 for 8", net.fullest(), 908);
        net.inject(1, 1);
        Expect.same("the lower destination", net.fullest(), 900);
        net.inject(2, 1);
        Expect.same("the lower node", net.fullest(), 9);
        net.inject(3, 1);
        Expect.same("the lower destination", net.fullest(), 1);
        net.inject(0, 1);
        Expect.same("one packet more", net.fullest(), 908);
    }

    private static void urgentOfNone() {
        BARE.refuses("no flows", ELEMENT, PressureNet::urgent);
        FULL.refuses("packets without a budget", ELEMENT, PressureNet::urgent);
        new Twins(BoundsOfAnswersTest::emptied).refuses("no packets", ELEMENT, PressureNet::urgent);
        PressureNet net = Expect.net("net 2;flow 0 1 0 budget 200;flow 0 1 0");
        net.inject(1, 3);
        Expect.fails("a budget without packets", ELEMENT, net::urgent);
        net.inject(0, 1);
        Expect.same("one packet", net.urgent(), 200);
        net.setBudget(0, 0);
        Expect.fails("budget 0 is none", ELEMENT, net::urgent);
    }

    private static void urgentNotNegative() {
        PressureNet net = Expect.net("net 2;flow 0 1 0 budget 200");
        net.inject(0, 1);
        net.run(50);
        net.setBudget(0, 51);
        Expect.same("1", net.urgent(), 1);
        net.setBudget(0, 50);
        Expect.same("0", net.urgent(), 0);
        net.setBudget(0, 49);
        Expect.same("not -1", net.urgent(), 0);
        net.setBudget(0, 1);
        Expect.same("not -49", net.urgent(), 0);
        net.setBudget(0, 51);
        Expect.same("it expires in 1 slot", net.run(1), 0);
    }

    private static void urgentIsTheLeast() {
        String text = "net 3;flow 0 1 0 budget 200;flow 0 1 0 budget 7;flow 2 1 0 budget 8;flow 0 1 0";
        int[][] orders = {{0, 1, 2, 3}, {3, 2, 1, 0}, {1, 0, 3, 2}, {2, 3, 0, 1}, {0, 2, 1, 3}};
        for (int[] order : orders) {
            PressureNet net = Expect.net(text);
            for (int flow : order) {
                net.inject(flow, 1);
            }
            Expect.same("7 is the least", net.urgent(), 7);
            net.setBudget(1, 0);
            Expect.same("8 is the least", net.urgent(), 8);
            net.flush(2, 1);
            Expect.same("200 is left", net.urgent(), 200);
        }
        PressureNet late = Expect.net("net 2;flow 0 1 0 budget 9;flow 1 0 0 budget 5");
        late.inject(0, 1);
        late.run(4);
        late.inject(1, 1);
        Expect.same("both expire in 5 slots", late.urgent(), 5);
        Expect.same("none is left behind 5 slots", late.run(5), 0);
    }

    private static void meanDelayOfAFlow() {
        BUSY.refusesEach("flow", INDEX, Twins.outside(0, 2), (x, v) -> x.meanDelay(v, true));
        BUSY.refusesEach("flow", INDEX, Twins.outside(0, 2), (x, v) -> x.meanDelay(v, false));
        WIDE.refusesEach("flow", INDEX, Twins.outside(0, 5), (x, v) -> x.meanDelay(v, false));
        BARE.refuses("flow 0 of none", INDEX, x -> x.meanDelay(0, false));
    }

    private static void meanDelayOfNone() {
        WIDE.refusesEach("none was delivered", ELEMENT, Twins.values(0, 5), (x, v) -> x.meanDelay(v, true));
        FULL.refusesEach("none was delivered", ELEMENT, Twins.values(0, 5), (x, v) -> x.meanDelay(v, false));
    }

    private static void meanDelayInLowestTerms() {
        PressureNet net = Expect.net("net 2;link 0 1 1;flow 0 1 0");
        int[][] due = {{1, 1}, {3, 2}, {2, 1}, {5, 2}};
        net.inject(0, 4);
        for (int[] mean : due) {
            net.run(1);
            Expect.same("numerator", net.meanDelay(0, false), mean[0]);
            Expect.same("denominator", net.meanDelay(0, true), mean[1]);
        }
        new Twins(BoundsOfAnswersTest::emptied).asks("all delays are 1", 1, x -> x.meanDelay(0, true));
    }

    // ---- Promises 36 and 37

    private static void scheduleOfAScheduler() {
        BUSY.refusesEach("scheduler", ARGUMENT, Twins.outside(0, 1), PressureNet::schedule);
        BUSY.refusesEach("scheduler", ARGUMENT, Twins.outside(0, 1), PressureNet::scheduleWeight);
        BARE.refusesEach("scheduler", ARGUMENT, Twins.outside(0, 1), PressureNet::schedule);
        BARE.refusesEach("scheduler", ARGUMENT, Twins.outside(0, 1), PressureNet::scheduleWeight);
        for (int scheduler = 0; scheduler <= 1; scheduler++) {
            int s = scheduler;
            BUSY.asks("schedule " + s, Twins.busy().schedule(s), x -> x.schedule(s));
            BUSY.asks("scheduleWeight " + s, Twins.busy().scheduleWeight(s), x -> x.scheduleWeight(s));
        }
    }

    private static void scheduleOfNothing() {
        for (int scheduler = 0; scheduler <= 1; scheduler++) {
            int s = scheduler;
            BARE.asks("no links", 0, x -> x.schedule(s));
            BARE.asks("no links", 0, x -> x.scheduleWeight(s));
            WIDE.asks("no packets", 0, x -> x.schedule(s));
            WIDE.asks("no packets", 0, x -> x.scheduleWeight(s));
        }
        PressureNet net = Expect.net("net 2;link 0 1 5;flow 0 1 300");
        Expect.same("no packets arrive in it", net.schedule(0) + net.schedule(1), 0);
        PressureNet great = Expect.net("net 10");
        for (int i = 0; i < 14; i++) {
            great.addLink(i < 9 ? 0 : 1, i < 9 ? i + 1 : i - 7, 5);
        }
        great.addFlow(0, 1, 0, 0);
        great.addFlow(1, 0, 0, 0);
        for (int i = 0; i < 5; i++) {
            great.inject(i / 3, 100);
        }
        Expect.same("all 14 links", great.schedule(0), (1 << 14) - 1);
        Expect.same("all 14 links", great.schedule(1), (1 << 14) - 1);
        Expect.same("their weights", great.scheduleWeight(1), 9 * 5 * 300 + 5 * 5 * 200);
    }
}
