/** Boundary cases of promises 6 to 16: one method for each sentence that names one. */
public final class BoundsOfChangesTest extends Bounds {
    public static void main(String[] args) {
        addLinkWhoseNodeDoesNotExist();
        addLinkNodesFirst();
        addLinkToTheSameNode();
        addLinkCapacity();
        addLinkArgumentsSecond();
        addLinkThatIsThere();
        addLink14AtMost();
        addedLinkHasNoConflicts();
        setCapacityOfALink();
        setCapacityRange();
        setCapacityLinkFirst();
        setConflictOfALink();
        setConflictOfTheSame();
        setConflictLinksFirst();
        setConflictBefore();
        addFlowWhoseNodeDoesNotExist();
        addFlowNodesFirst();
        addFlowToTheSameNode();
        addFlowRate();
        addFlowBudget();
        addFlow6AtMost();
        addFlowArgumentsBeforeState();
        setRateOfAFlow();
        setRateRange();
        setBudgetOfAFlow();
        setBudgetRange();
        setWhat();
        setValue();
        injectOfAFlow();
        injectPackets();
        injectIntoAFullNet();
        flushWhoseNodeDoesNotExist();
        flushOfTheSameNode();
        flushOfAnEmptyQueue();
        flushOfAFullNet();
        resetShadowsOfNone();
        runSlots();
        runTo9999();
        Expect.end("BoundsOfChangesTest");
    }

    // ---- Promise 6

    private static void addLinkWhoseNodeDoesNotExist() {
        BUSY.refusesEach("from", INDEX, Twins.outside(0, 3), (x, v) -> x.addLink(v, 2, 1));
        BUSY.refusesEach("to", INDEX, Twins.outside(0, 3), (x, v) -> x.addLink(2, v, 1));
        BARE.refusesEach("from", INDEX, Twins.outside(0, 1), (x, v) -> x.addLink(v, 0, 1));
        BARE.refusesEach("to", INDEX, Twins.outside(0, 1), (x, v) -> x.addLink(0, v, 1));
        BUSY.takesEach("from 0 and 3", 5, Twins.values(0, 3), (x, v) -> x.addLink(v, v == 0 ? 2 : 1, 1));
        BUSY.takesEach("to 0 and 3", 5, Twins.values(0, 3), (x, v) -> x.addLink(v == 0 ? 2 : 1, v, 1));
        BARE.takes("0 to 1", 0, x -> x.addLink(0, 1, 1));
        BARE.takes("1 to 0", 0, x -> x.addLink(1, 0, 1));
        PressureNet ten = Expect.net("net 10");
        Expect.same("0 to 9", ten.addLink(0, 9, 1), 0);
        Expect.same("9 to 0", ten.addLink(9, 0, 1), 1);
        Expect.same("it leads from 9", ten.link(1, 0), 9);
        Expect.same("it leads to 9", ten.link(0, 1), 9);
    }

    private static void addLinkNodesFirst() {
        BUSY.refuses("the same node", INDEX, x -> x.addLink(4, 4, 1));
        BUSY.refuses("the same node", INDEX, x -> x.addLink(-1, -1, 1));
        BUSY.refuses("capacity 0", INDEX, x -> x.addLink(4, 0, 0));
        BUSY.refuses("capacity 6", INDEX, x -> x.addLink(0, 4, 6));
        WIDE.refuses("from 10, 14 links", INDEX, x -> x.addLink(10, 0, 1));
        WIDE.refuses("to 10, 14 links", INDEX, x -> x.addLink(0, 10, 1));
        WIDE.refuses("all of it", INDEX, x -> x.addLink(10, 10, 6));
    }

    private static void addLinkToTheSameNode() {
        BUSY.refusesEach("the same node", ARGUMENT, Twins.values(0, 1, 2, 3), (x, v) -> x.addLink(v, v, 1));
        BARE.refusesEach("the same node", ARGUMENT, Twins.values(0, 1), (x, v) -> x.addLink(v, v, 5));
    }

    private static void addLinkCapacity() {
        BUSY.refusesEach("capacity", ARGUMENT, Twins.outside(1, 5), (x, v) -> x.addLink(0, 2, v));
        BUSY.takesEach("capacity", 5, Twins.values(1, 2, 3, 4, 5), (x, v) -> x.addLink(0, 2, v));
        PressureNet net = Twins.busy();
        net.addLink(0, 2, 1);
        net.addLink(2, 0, 5);
        Expect.same("capacities", net.link(5, 2) * 10 + net.link(6, 2), 15);
    }

    private static void addLinkArgumentsSecond() {
        BUSY.refuses("capacity of a link that is there", ARGUMENT, x -> x.addLink(0, 1, 0));
        BUSY.refuses("capacity of a link that is there", ARGUMENT, x -> x.addLink(0, 1, 6));
        WIDE.refuses("the same node, 14 links", ARGUMENT, x -> x.addLink(9, 9, 1));
        WIDE.refuses("capacity, 14 links", ARGUMENT, x -> x.addLink(9, 5, 0));
        WIDE.refuses("capacity, 14 links", ARGUMENT, x -> x.addLink(9, 5, 6));
    }

    private static void addLinkThatIsThere() {
        BUSY.refuses("0 to 1", STATE, x -> x.addLink(0, 1, 2));
        BUSY.refuses("0 to 1 of another capacity", STATE, x -> x.addLink(0, 1, 5));
        BUSY.refuses("the last link", STATE, x -> x.addLink(1, 0, 1));
        BUSY.takes("the other way", 5, x -> x.addLink(2, 1, 1));
        PressureNet net = Expect.net("net 3");
        net.addLink(0, 1, 1);
        Expect.fails("a link that was added", STATE, () -> net.addLink(0, 1, 1));
        net.undo();
        Expect.same("a link that was undone", net.addLink(0, 1, 3), 0);
    }

    private static void addLink14AtMost() {
        WIDE.refuses("a 15th link", STATE, x -> x.addLink(9, 5, 1));
        WIDE.refuses("a 15th link, there already", STATE, x -> x.addLink(0, 1, 1));
        PressureNet net = Expect.net("net 10");
        for (int i = 0; i < 14; i++) {
            Expect.same("link", net.addLink(i % 10, (i + 1 + i / 10) % 10, 1), i);
            Expect.same("links", net.count(1), i + 1);
        }
        Expect.fails("a 15th link", STATE, () -> net.addLink(9, 5, 1));
        net.undo();
        Expect.same("another 14th link", net.addLink(9, 5, 1), 13);
    }

    private static void addedLinkHasNoConflicts() {
        PressureNet net = Expect.net("net 3;link 0 1 1");
        net.addLink(1, 2, 1);
        net.setConflict(0, 1, true);
        net.undo();
        net.undo();
        net.addLink(1, 2, 1);
        Expect.same("conflicts of the new one", net.conflicts(1), 0);
        Expect.same("conflicts of the other", net.conflicts(0), 0);
        Expect.same("carried", net.link(1, 3), 0);
    }

    // ---- Promise 7

    private static void setCapacityOfALink() {
        BUSY.refusesEach("link", INDEX, Twins.outside(0, 4), (x, v) -> x.setCapacity(v, 1));
        WIDE.refusesEach("link", INDEX, Twins.outside(0, 13), (x, v) -> x.setCapacity(v, 1));
        BARE.refuses("link 0 of none", INDEX, x -> x.setCapacity(0, 1));
        BUSY.takes("link 0", 2, x -> x.setCapacity(0, 1));
        BUSY.takes("link 4", 1, x -> x.setCapacity(4, 1));
        WIDE.takes("link 13", 4, x -> x.setCapacity(13, 1));
    }

    private static void setCapacityRange() {
        BUSY.refusesEach("capacity", ARGUMENT, Twins.outside(1, 5), (x, v) -> x.setCapacity(3, v));
        BUSY.takesEach("capacity", 5, Twins.values(1, 2, 3, 4, 5), (x, v) -> x.setCapacity(3, v));
        PressureNet net = new PressureNet();
        net.setCapacity(1, 5);
        Expect.same("set to 5", net.link(1, 2), 5);
        Expect.same("previous", net.setCapacity(1, 1), 5);
        Expect.same("set to 1", net.link(1, 2), 1);
        Expect.same("the other link", net.link(0, 2), 1);
    }

    private static void setCapacityLinkFirst() {
        BUSY.refuses("both", INDEX, x -> x.setCapacity(5, 0));
        BUSY.refuses("both", INDEX, x -> x.setCapacity(-1, 6));
    }

    // ---- Promise 8

    private static long conflict(PressureNet net, int link, int other, boolean on) {
        return net.setConflict(link, other, on) ? 1 : 0;
    }

    private static void setConflictOfALink() {
        BUSY.refusesEach("link", INDEX, Twins.outside(0, 4), (x, v) -> conflict(x, v, 0, true));
        BUSY.refusesEach("other", INDEX, Twins.outside(0, 4), (x, v) -> conflict(x, 0, v, true));
        WIDE.refusesEach("link", INDEX, Twins.outside(0, 13), (x, v) -> conflict(x, v, 0, true));
        WIDE.refusesEach("other", INDEX, Twins.outside(0, 13), (x, v) -> conflict(x, 0, v, false));
        BARE.refuses("links of none", INDEX, x -> conflict(x, 0, 1, true));
        PressureNet net = Twins.wide();
        Expect.same("0 and 13", conflict(net, 0, 13, true), 0);
        Expect.same("conflicts of 13", net.conflicts(13), 1);
        Expect.same("conflicts of 0", net.conflicts(0), 1 << 13);
    }

    private static void setConflictOfTheSame() {
        BUSY.refusesEach("the same", ARGUMENT, Twins.values(0, 1, 2, 3, 4), (x, v) -> conflict(x, v, v, true));
        BUSY.refusesEach("the same", ARGUMENT, Twins.values(0, 1, 2, 3, 4), (x, v) -> conflict(x, v, v, false));
    }

    private static void setConflictLinksFirst() {
        BUSY.refuses("the same, too great", INDEX, x -> conflict(x, 5, 5, true));
        BUSY.refuses("the same, too small", INDEX, x -> conflict(x, -1, -1, false));
    }

    private static void setConflictBefore() {
        BUSY.takes("on before", 1, x -> conflict(x, 1, 0, true));
        BUSY.takes("on before, off then", 1, x -> conflict(x, 0, 1, false));
        BUSY.takes("off before", 0, x -> conflict(x, 0, 4, true));
        BUSY.takes("off before and then", 0, x -> conflict(x, 4, 0, false));
        for (int order = 0; order < 2; order++) {
            PressureNet net = Expect.net("net 3;link 0 1 1;link 1 2 1;link 2 0 1;conflict 0 1;conflict 1 2");
            conflict(net, order, 1 - order, false);
            Expect.same("off for the one", net.conflicts(0), 0);
            Expect.same("off for the other", net.conflicts(1), 0b100);
            Expect.same("the third one stays", net.conflicts(2), 0b010);
            Expect.same("off before", conflict(net, 1 - order, order, true), 0);
            Expect.same("on for the one", net.conflicts(0), 0b010);
            Expect.same("on for the other", net.conflicts(1), 0b101);
        }
    }

    // ---- Promise 9

    private static void addFlowWhoseNodeDoesNotExist() {
        BUSY.refusesEach("source", INDEX, Twins.outside(0, 3), (x, v) -> x.addFlow(v, 2, 1, 1));
        BUSY.refusesEach("destination", INDEX, Twins.outside(0, 3), (x, v) -> x.addFlow(2, v, 1, 1));
        BARE.refusesEach("source", INDEX, Twins.outside(0, 1), (x, v) -> x.addFlow(v, 0, 1, 1));
        BARE.refusesEach("destination", INDEX, Twins.outside(0, 1), (x, v) -> x.addFlow(0, v, 1, 1));
        BUSY.takesEach("source", 3, Twins.values(0, 3), (x, v) -> x.addFlow(v, 2, 1, 1));
        BUSY.takesEach("destination", 3, Twins.values(0, 3), (x, v) -> x.addFlow(2, v, 1, 1));
        BARE.takes("0 to 1", 0, x -> x.addFlow(0, 1, 1, 1));
        BARE.takes("1 to 0", 0, x -> x.addFlow(1, 0, 1, 1));
        PressureNet ten = Expect.net("net 10");
        ten.addFlow(9, 0, 1, 1);
        Expect.same("0 to 9", ten.addFlow(0, 9, 1, 1), 1);
        Expect.same("source 9", ten.flow(0, 0), 9);
        Expect.same("destination 9", ten.flow(1, 1), 9);
    }

    private static void addFlowNodesFirst() {
        BUSY.refuses("the same node", INDEX, x -> x.addFlow(4, 4, 1, 1));
        BUSY.refuses("the same node", INDEX, x -> x.addFlow(-1, -1, 1, 1));
        BUSY.refuses("rate", INDEX, x -> x.addFlow(4, 0, 301, 1));
        BUSY.refuses("budget", INDEX, x -> x.addFlow(0, 4, 1, 201));
        WIDE.refuses("source 10, 6 flows", INDEX, x -> x.addFlow(10, 0, 1, 1));
        WIDE.refuses("destination 10, 6 flows", INDEX, x -> x.addFlow(0, 10, 1, 1));
    }

    private static void addFlowToTheSameNode() {
        BUSY.refusesEach("the same node", ARGUMENT, Twins.values(0, 1, 2, 3), (x, v) -> x.addFlow(v, v, 1, 1));
    }

    private static void addFlowRate() {
        BUSY.refusesEach("rate", ARGUMENT, Twins.outside(0, 300), (x, v) -> x.addFlow(0, 2, v, 1));
        BUSY.takesEach("rate", 3, Twins.values(0, 1, 299, 300), (x, v) -> x.addFlow(0, 2, v, 1));
        PressureNet net = Twins.busy();
        net.addFlow(0, 2, 0, 200);
        net.addFlow(0, 2, 300, 0);
        Expect.same("rates", net.flow(3, 2) * 1000 + net.flow(4, 2), 300);
        Expect.same("budgets", net.flow(3, 3) * 1000 + net.flow(4, 3), 200_000);
    }

    private static void addFlowBudget() {
        BUSY.refusesEach("budget", ARGUMENT, Twins.outside(0, 200), (x, v) -> x.addFlow(0, 2, 1, v));
        BUSY.takesEach("budget", 3, Twins.values(0, 1, 199, 200), (x, v) -> x.addFlow(0, 2, 1, v));
    }

    private static void addFlow6AtMost() {
        WIDE.refuses("a 7th flow", STATE, x -> x.addFlow(0, 9, 0, 0));
        PressureNet net = Expect.net("net 2");
        for (int i = 0; i < 6; i++) {
            Expect.same("flow", net.addFlow(i % 2, 1 - i % 2, 1, 1), i);
            Expect.same("flows", net.count(2), i + 1);
        }
        Expect.fails("a 7th flow", STATE, () -> net.addFlow(0, 1, 300, 200));
        net.undo();
        Expect.same("another 6th flow", net.addFlow(0, 1, 0, 0), 5);
    }

    private static void addFlowArgumentsBeforeState() {
        WIDE.refuses("the same node, 6 flows", ARGUMENT, x -> x.addFlow(9, 9, 1, 1));
        WIDE.refuses("rate -1, 6 flows", ARGUMENT, x -> x.addFlow(0, 9, -1, 1));
        WIDE.refuses("rate 301, 6 flows", ARGUMENT, x -> x.addFlow(0, 9, 301, 1));
        WIDE.refuses("budget -1, 6 flows", ARGUMENT, x -> x.addFlow(0, 9, 1, -1));
        WIDE.refuses("budget 201, 6 flows", ARGUMENT, x -> x.addFlow(0, 9, 1, 201));
    }

    // ---- Promises 10 and 11

    private static void setRateOfAFlow() {
        BUSY.refusesEach("flow", INDEX, Twins.outside(0, 2), (x, v) -> x.setRate(v, 1));
        WIDE.refusesEach("flow", INDEX, Twins.outside(0, 5), (x, v) -> x.setRate(v, 1));
        BARE.refuses("flow 0 of none", INDEX, x -> x.setRate(0, 1));
        BUSY.refuses("flow first", INDEX, x -> x.setRate(3, 301));
        BUSY.refuses("flow first", INDEX, x -> x.setRate(-1, -1));
        BUSY.takes("flow 0", 120, x -> x.setRate(0, 1));
        BUSY.takes("flow 2", 60, x -> x.setRate(2, 1));
        WIDE.takes("flow 5", 0, x -> x.setRate(5, 1));
    }

    private static void setRateRange() {
        BUSY.refusesEach("rate", ARGUMENT, Twins.outside(0, 300), (x, v) -> x.setRate(1, v));
        BUSY.takesEach("rate", 30, Twins.values(0, 1, 299, 300), (x, v) -> x.setRate(1, v));
        PressureNet net = new PressureNet();
        Expect.same("300", net.setRate(0, 300), 50);
        Expect.same("the rate is 300", net.flow(0, 2), 300);
        Expect.same("0", net.setRate(0, 0), 300);
        Expect.same("the rate is 0", net.flow(0, 2), 0);
    }

    private static void setBudgetOfAFlow() {
        BUSY.refusesEach("flow", INDEX, Twins.outside(0, 2), (x, v) -> x.setBudget(v, 1));
        WIDE.refusesEach("flow", INDEX, Twins.outside(0, 5), (x, v) -> x.setBudget(v, 1));
        BARE.refuses("flow 0 of none", INDEX, x -> x.setBudget(0, 1));
        BUSY.refuses("flow first", INDEX, x -> x.setBudget(3, 201));
        BUSY.refuses("flow first", INDEX, x -> x.setBudget(-1, -1));
        BUSY.takes("flow 0", 9, x -> x.setBudget(0, 1));
        BUSY.takes("flow 2", 0, x -> x.setBudget(2, 1));
        WIDE.takes("flow 5", 0, x -> x.setBudget(5, 1));
    }

    private static void setBudgetRange() {
        BUSY.refusesEach("budget", ARGUMENT, Twins.outside(0, 200), (x, v) -> x.setBudget(1, v));
        BUSY.takesEach("budget", 30, Twins.values(0, 1, 199, 200), (x, v) -> x.setBudget(1, v));
        PressureNet net = new PressureNet();
        Expect.same("200", net.setBudget(0, 200), 0);
        Expect.same("the budget is 200", net.flow(0, 3), 200);
        Expect.same("0", net.setBudget(0, 0), 200);
        Expect.same("the budget is 0", net.flow(0, 3), 0);
    }

    // ---- Promise 12

    private static void setWhat() {
        BUSY.refusesEach("what", ARGUMENT, Twins.outside(0, 3), (x, v) -> x.set(v, 0));
        BUSY.refuses("what and value", ARGUMENT, x -> x.set(4, 99));
        BUSY.refuses("what and value", ARGUMENT, x -> x.set(-1, -1));
    }

    private static void setValue() {
        int[] before = {0, 20, 1, 1};
        int[] greatest = {1, 50, 20, 1};
        for (int what = 0; what < 4; what++) {
            int w = what;
            BUSY.refusesEach("value of " + w, ARGUMENT, Twins.outside(0, greatest[w]), (x, v) -> x.set(w, v));
            BUSY.takes("least of " + w, before[w], x -> x.set(w, 0));
            BUSY.takes("greatest of " + w, before[w], x -> x.set(w, greatest[w]));
            PressureNet net = Twins.busy();
            net.set(w, greatest[w]);
            for (int other = 0; other < 4; other++) {
                Expect.same("setting " + other, net.count(3 + other), other == w ? greatest[w] : before[other]);
            }
            Expect.same("previous of " + w, net.set(w, 0), greatest[w]);
            Expect.same("it is 0", net.count(3 + w), 0);
        }
    }

    // ---- Promise 13

    private static void injectOfAFlow() {
        BUSY.refusesEach("flow", INDEX, Twins.outside(0, 2), (x, v) -> x.inject(v, 1));
        WIDE.refusesEach("flow", INDEX, Twins.outside(0, 5), (x, v) -> x.inject(v, 1));
        FULL.refuses("flow 6 of a full net", INDEX, x -> x.inject(6, 1));
        BARE.refuses("flow 0 of none", INDEX, x -> x.inject(0, 1));
        BUSY.refuses("flow first", INDEX, x -> x.inject(3, 0));
        BUSY.refuses("flow first", INDEX, x -> x.inject(-1, 101));
        BUSY.takes("flow 0", 1, x -> x.inject(0, 1));
        BUSY.takes("flow 2", 1, x -> x.inject(2, 1));
        WIDE.takes("flow 5", 1, x -> x.inject(5, 1));
    }

    private static void injectPackets() {
        BUSY.refusesEach("packets", ARGUMENT, Twins.outside(1, 100), (x, v) -> x.inject(1, v));
        FULL.refuses("no packets", ARGUMENT, x -> x.inject(0, 0));
        FULL.refuses("101 packets", ARGUMENT, x -> x.inject(0, 101));
        BUSY.takes("1 packet", 1, x -> x.inject(1, 1));
        BUSY.takes("100 packets", 100, x -> x.inject(1, 100));
        FULL.takes("100 packets, all lost", 0, x -> x.inject(1, 100));
    }

    private static PressureNet filled(int packets) {
        PressureNet net = Expect.net("net 3;flow 0 2 0;flow 1 2 0;flow 2 0 0");
        for (int left = packets; left > 0; left -= 100) {
            net.inject(0, Math.min(100, left));
        }
        return net;
    }

    private static void injectIntoAFullNet() {
        int[][] cases = {{400, 100, 100}, {401, 100, 99}, {450, 100, 50}, {499, 1, 1}, {499, 2, 1}, {500, 1, 0}, {500, 100, 0}};
        for (int[] c : cases) {
            PressureNet net = filled(c[0]);
            Expect.same("not lost", net.inject(1, c[1]), c[2]);
            Expect.same("packets in the net", net.total(1), c[0] + c[2]);
            Expect.same("arrived", net.flow(1, 4), c[1]);
            Expect.same("lost", net.flow(1, 5), c[1] - c[2]);
            Expect.same("lost of the other flow", net.flow(0, 5), 0);
            Expect.same("in the queue", net.queue(1, 2), c[2]);
            Expect.same("shadow", net.total(3), 0);
            int changes = net.undoCount();
            Expect.same("a change all the same", net.undo(), changes - 1);
            Expect.same("undone", net.flow(1, 4), 0);
        }
        PressureNet net = filled(500);
        net.flush(0, 2);
        Expect.same("there is room again", net.inject(2, 100), 100);
    }

    // ---- Promise 14

    private static void flushWhoseNodeDoesNotExist() {
        BUSY.refusesEach("node", INDEX, Twins.outside(0, 3), (x, v) -> x.flush(v, 2));
        BUSY.refusesEach("destination", INDEX, Twins.outside(0, 3), (x, v) -> x.flush(2, v));
        BUSY.refuses("nodes first", INDEX, x -> x.flush(4, 4));
        BUSY.refuses("nodes first", INDEX, x -> x.flush(-1, -1));
        WIDE.refusesEach("node", INDEX, Twins.outside(0, 9), (x, v) -> x.flush(v, 2));
        WIDE.takes("0 for 9", 0, x -> x.flush(0, 9));
        WIDE.takes("9 for 0", 0, x -> x.flush(9, 0));
    }

    private static void flushOfTheSameNode() {
        BUSY.refusesEach("the same node", ARGUMENT, Twins.values(0, 1, 2, 3), (x, v) -> x.flush(v, v));
        FULL.refusesEach("the same node", ARGUMENT, Twins.values(0, 9), (x, v) -> x.flush(v, v));
    }

    private static void flushOfAnEmptyQueue() {
        PressureNet net = filled(3);
        String before = Twins.state(net);
        Expect.same("no packets", net.flush(1, 2), 0);
        Expect.same("no packets back", net.flush(2, 0), 0);
        Expect.alike("nothing has changed", Twins.state(net), before);
        Expect.same("two changes more", net.undoCount(), 3);
        net.flush(0, 2);
        Expect.same("empty now", net.flush(0, 2), 0);
        Expect.same("each is lost once", net.flow(0, 5), 3);
    }

    private static void flushOfAFullNet() {
        PressureNet net = filled(500);
        Expect.same("500 packets", net.flush(0, 2), 500);
        Expect.same("no packets", net.total(1), 0);
        Expect.same("lost", net.flow(0, 5), 500);
        Expect.same("arrived", net.flow(0, 4), 500);
        PressureNet shared = filled(400);
        shared.setRate(1, 0);
        shared.addFlow(0, 2, 0, 0);
        shared.inject(3, 100);
        Expect.same("packets of two flows", shared.flush(0, 2), 500);
        Expect.same("lost of the first", shared.flow(0, 5), 400);
        Expect.same("lost of the second", shared.flow(3, 5), 100);
    }

    // ---- Promise 15

    private static void resetShadowsOfNone() {
        PressureNet net = filled(3);
        String before = Twins.state(net);
        Expect.same("all are 0", net.resetShadows(), 0);
        Expect.alike("nothing has changed", Twins.state(net), before);
        Expect.same("a change all the same", net.undoCount(), 2);
        BARE.takes("no flows", 0, PressureNet::resetShadows);
        PressureNet great = Expect.net("net 2;flow 0 1 300;flow 1 0 300;excess 50");
        great.run(50);
        Expect.same("the sum of two", great.resetShadows(), 2 * 225);
        Expect.same("again", great.resetShadows(), 0);
        Expect.same("packets stay", great.total(1), 300);
        great.undo();
        great.undo();
        Expect.same("undone", great.total(3), 450);
    }

    // ---- Promise 16

    private static void runSlots() {
        BUSY.refusesEach("slots", ARGUMENT, Twins.outside(1, 50), PressureNet::run);
        BARE.refusesEach("slots", ARGUMENT, Twins.outside(1, 50), PressureNet::run);
        PressureNet net = new PressureNet();
        net.inject(0, 1);
        Expect.same("1 slot", net.run(1), 1);
        Expect.same("slot 1", net.total(0), 1);
        net.setRate(0, 0);
        Expect.same("50 slots", net.run(50), 0);
        Expect.same("slot 51", net.total(0), 51);
        BARE.takes("1 slot without links and flows", 0, x -> x.run(1));
        BARE.takes("50 slots without links and flows", 0, x -> x.run(50));
        Expect.same("a full net without a way stays full", filled(500).run(50), 500);
    }

    private static PressureNet slot(int slots) {
        PressureNet net = Twins.late();
        net.run(slots - 9950);
        return net;
    }

    private static void runTo9999() {
        new Twins(Twins::late).refuses("50 at 9950", ARGUMENT, x -> x.run(50));
        Expect.same("slot 9950", Twins.late().total(0), 9950);
        PressureNet net = Twins.late();
        net.run(49);
        Expect.same("slot 9999", net.total(0), 9999);
        new Twins(() -> slot(9998)).refuses("2 at 9998", ARGUMENT, x -> x.run(2));
        new Twins(() -> slot(9998)).takes("1 at 9998", 0, x -> x.run(1));
        new Twins(() -> slot(9999)).refusesEach("slots at 9999", ARGUMENT, Twins.values(1, 2, 50, 51, 0), PressureNet::run);
        Expect.same("a packet arrives at 9999", net.inject(0, 1), 1);
        Expect.same("its slot", net.packet(0, 1, 0, 1), 9999);
        Expect.same("the greatest slot is saved", net.save(), 9999);
        Expect.same("and restored", net.restore(), 9999);
    }
}
