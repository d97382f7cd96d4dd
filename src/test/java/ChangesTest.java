/** Promises 6 to 16, and with run() section 3. */
public final class ChangesTest {
    public static void main(String[] args) {
        addLink();
        setCapacity();
        setConflict();
        addFlow();
        setRateAndBudget();
        set();
        inject();
        flush();
        resetShadows();
        runArguments();
        lastSlot();
        arrivals();
        twoPhases();
        sharedQueue();
        loops();
        bias();
        shadowMode();
        greedyAndExact();
        expiry();
        fullNet();
        Expect.end("ChangesTest");
    }

    private static void addLink() {
        PressureNet net = new PressureNet();
        Expect.fails("addLink -1", Expect.INDEX, () -> net.addLink(-1, 0, 1));
        Expect.fails("addLink to 3", Expect.INDEX, () -> net.addLink(0, 3, 1));
        Expect.fails("index first", Expect.INDEX, () -> net.addLink(3, 3, 9));
        Expect.fails("same node", Expect.ARGUMENT, () -> net.addLink(2, 2, 1));
        Expect.fails("capacity 0", Expect.ARGUMENT, () -> net.addLink(2, 0, 0));
        Expect.fails("capacity 6", Expect.ARGUMENT, () -> net.addLink(2, 0, 6));
        Expect.fails("argument second", Expect.ARGUMENT, () -> net.addLink(0, 1, 6));
        Expect.fails("there already", Expect.STATE, () -> net.addLink(0, 1, 2));
        Expect.same("no change", net.undoCount(), 0);
        Expect.same("hops before", net.hops(2, 1), 3);
        Expect.same("addLink", net.addLink(2, 0, 5), 2);
        Expect.same("hops behind", net.hops(2, 1), 2);
        Expect.same("from", net.link(2, 0), 2);
        Expect.same("to", net.link(2, 1), 0);
        Expect.same("capacity", net.link(2, 2), 5);
        Expect.same("carried", net.link(2, 3), 0);
        Expect.same("conflicts", net.conflicts(2), 0);
        Expect.same("the other way", net.addLink(1, 0, 1), 3);
        net.setConflict(3, 0, true);
        net.undo();
        net.undo();
        Expect.same("link 3 once more, without conflicts", net.addLink(2, 1, 1), 3);
        Expect.same("conflicts of 3", net.conflicts(3), 0);
        Expect.same("conflicts of 0", net.conflicts(0), 0);

        PressureNet many = Expect.net("net 10");
        for (int i = 0; i < 14; i++) {
            Expect.same("addLink " + i, many.addLink(i % 10, (i + 1 + i / 10) % 10, 1), i);
        }
        Expect.fails("a link too many", Expect.STATE, () -> many.addLink(9, 8, 1));
        Expect.fails("argument before state", Expect.ARGUMENT, () -> many.addLink(9, 9, 1));
        Expect.fails("index before state", Expect.INDEX, () -> many.addLink(9, 10, 1));
        Expect.same("14 links", many.count(1), 14);
    }

    private static void setCapacity() {
        PressureNet net = new PressureNet();
        Expect.fails("link 2", Expect.INDEX, () -> net.setCapacity(2, 1));
        Expect.fails("link -1", Expect.INDEX, () -> net.setCapacity(-1, 0));
        Expect.fails("capacity 0", Expect.ARGUMENT, () -> net.setCapacity(1, 0));
        Expect.fails("capacity 6", Expect.ARGUMENT, () -> net.setCapacity(1, 6));
        Expect.same("no change", net.undoCount(), 0);
        Expect.same("setCapacity", net.setCapacity(1, 5), 1);
        Expect.same("setCapacity again", net.setCapacity(1, 5), 5);
        Expect.same("capacity", net.link(1, 2), 5);
        Expect.same("of the other", net.link(0, 2), 1);
        Expect.same("two changes", net.undoCount(), 2);
    }

    private static long conflict(PressureNet net, int link, int other, boolean on) {
        return net.setConflict(link, other, on) ? 1 : 0;
    }

    private static void setConflict() {
        PressureNet net = Expect.net("net 3;link 0 1 1;link 1 2 1;link 2 0 1");
        Expect.fails("link 3", Expect.INDEX, () -> conflict(net, 3, 0, true));
        Expect.fails("other 3", Expect.INDEX, () -> conflict(net, 0, 3, true));
        Expect.fails("link -1", Expect.INDEX, () -> conflict(net, -1, -1, true));
        Expect.fails("the same", Expect.ARGUMENT, () -> conflict(net, 2, 2, false));
        Expect.same("no change", net.undoCount(), 0);
        Expect.same("on", conflict(net, 2, 0, true), 0);
        Expect.same("on again", conflict(net, 0, 2, true), 1);
        Expect.same("conflicts of 0", net.conflicts(0), 4);
        Expect.same("conflicts of 2", net.conflicts(2), 1);
        Expect.same("another", conflict(net, 1, 0, true), 0);
        Expect.same("conflicts of 0", net.conflicts(0), 6);
        Expect.same("off", conflict(net, 0, 2, false), 1);
        Expect.same("off again", conflict(net, 2, 0, false), 0);
        Expect.same("conflicts of 0", net.conflicts(0), 2);
        Expect.same("conflicts of 2", net.conflicts(2), 0);
        Expect.same("five changes", net.undoCount(), 5);
    }

    private static void addFlow() {
        PressureNet net = new PressureNet();
        Expect.fails("source -1", Expect.INDEX, () -> net.addFlow(-1, 0, 0, 0));
        Expect.fails("destination 3", Expect.INDEX, () -> net.addFlow(0, 3, 999, 0));
        Expect.fails("same node", Expect.ARGUMENT, () -> net.addFlow(1, 1, 0, 0));
        Expect.fails("rate -1", Expect.ARGUMENT, () -> net.addFlow(1, 0, -1, 0));
        Expect.fails("rate 301", Expect.ARGUMENT, () -> net.addFlow(1, 0, 301, 0));
        Expect.fails("budget -1", Expect.ARGUMENT, () -> net.addFlow(1, 0, 0, -1));
        Expect.fails("budget 201", Expect.ARGUMENT, () -> net.addFlow(1, 0, 0, 201));
        net.run(4);
        for (int i = 1; i < 6; i++) {
            Expect.same("addFlow " + i, net.addFlow(1, 2, 300, 200), i);
        }
        int[] flow = {1, 2, 300, 200, 0, 0, 0, 0, 0, 0, 0};
        for (int what = 0; what < flow.length; what++) {
            Expect.same("added flow " + what, net.flow(5, what), flow[what]);
        }
        Expect.fails("a flow too many", Expect.STATE, () -> net.addFlow(0, 1, 1, 1));
        Expect.fails("argument before state", Expect.ARGUMENT, () -> net.addFlow(0, 1, 301, 1));
        Expect.fails("index before state", Expect.INDEX, () -> net.addFlow(0, 5, 1, 1));
        Expect.same("6 changes", net.undoCount(), 6);
        net.run(1);
        Expect.same("3 arrived", net.flow(5, 4), 3);
        net.undo();
        net.undo();
        Expect.same("flow 5 anew", net.addFlow(2, 0, 1, 0), 5);
        Expect.same("nothing arrived", net.flow(5, 4), 0);
    }

    private static void setRateAndBudget() {
        PressureNet net = new PressureNet();
        Expect.fails("rate of flow 1", Expect.INDEX, () -> net.setRate(1, 301));
        Expect.fails("rate of flow -1", Expect.INDEX, () -> net.setRate(-1, 1));
        Expect.fails("rate -1", Expect.ARGUMENT, () -> net.setRate(0, -1));
        Expect.fails("rate 301", Expect.ARGUMENT, () -> net.setRate(0, 301));
        Expect.fails("budget of flow 1", Expect.INDEX, () -> net.setBudget(1, 201));
        Expect.fails("budget of flow -1", Expect.INDEX, () -> net.setBudget(-1, 1));
        Expect.fails("budget -1", Expect.ARGUMENT, () -> net.setBudget(0, -1));
        Expect.fails("budget 201", Expect.ARGUMENT, () -> net.setBudget(0, 201));
        Expect.same("no change", net.undoCount(), 0);
        Expect.same("setRate", net.setRate(0, 300), 50);
        Expect.same("setRate again", net.setRate(0, 0), 300);
        Expect.same("rate", net.flow(0, 2), 0);
        Expect.same("setBudget", net.setBudget(0, 200), 0);
        Expect.same("setBudget again", net.setBudget(0, 7), 200);
        Expect.same("budget", net.flow(0, 3), 7);
        Expect.same("four changes", net.undoCount(), 4);
        net.setRate(0, 300);
        net.run(1);
        Expect.same("at rate 300 three arrive", net.flow(0, 4), 3);
    }

    private static void set() {
        PressureNet net = new PressureNet();
        int[] greatest = {1, 50, 20, 1};
        int[] first = {0, 10, 0, 0};
        Expect.fails("set -1", Expect.ARGUMENT, () -> net.set(-1, 0));
        Expect.fails("set 4", Expect.ARGUMENT, () -> net.set(4, 0));
        for (int what = 0; what < 4; what++) {
            int w = what;
            Expect.fails("set too little " + w, Expect.ARGUMENT, () -> net.set(w, -1));
            Expect.fails("set too much " + w, Expect.ARGUMENT, () -> net.set(w, greatest[w] + 1));
        }
        Expect.same("no change", net.undoCount(), 0);
        for (int what = 0; what < 4; what++) {
            Expect.same("set " + what, net.set(what, greatest[what]), first[what]);
            Expect.same("count " + what, net.count(what + 3), greatest[what]);
        }
        for (int what = 0; what < 4; what++) {
            Expect.same("set back " + what, net.set(what, 0), greatest[what]);
            Expect.same("count " + what, net.count(what + 3), 0);
        }
        Expect.same("changes", net.undoCount(), 6);
    }

    private static void inject() {
        PressureNet net = new PressureNet();
        net.run(1);
        Expect.fails("flow 1", Expect.INDEX, () -> net.inject(1, 0));
        Expect.fails("flow -1", Expect.INDEX, () -> net.inject(-1, 5));
        Expect.fails("0 packets", Expect.ARGUMENT, () -> net.inject(0, 0));
        Expect.fails("101 packets", Expect.ARGUMENT, () -> net.inject(0, 101));
        Expect.same("one change", net.undoCount(), 1);
        Expect.same("inject", net.inject(0, 100), 100);
        Expect.same("the shadow stays", net.shadow(0, 2), 0);
        Expect.same("queue", net.queue(0, 2), 100);
        Expect.same("peak stays", net.total(2), 0);
        int[] packet = {0, 1, 0, 1};
        for (int what = 0; what < 4; what++) {
            Expect.same("packet " + what, net.packet(0, 2, 99, what), packet[what]);
        }
        for (int i = 0; i < 3; i++) {
            net.inject(0, 100);
        }
        Expect.same("inject 60", net.inject(0, 60), 60);
        Expect.same("inject 50 more", net.inject(0, 50), 40);
        Expect.same("inject into a full net", net.inject(0, 1), 0);
        Expect.same("arrived", net.flow(0, 4), 511);
        Expect.same("lost", net.flow(0, 5), 11);
        Expect.same("packets", net.total(1), 500);
        Expect.same("still a change", net.undo(), 5);
        Expect.same("lost before", net.flow(0, 5), 10);
    }

    private static void flush() {
        PressureNet net = Expect.net("net 3;link 0 1 2;flow 0 2 0;flow 0 2 0 budget 5;flow 0 1 0");
        Expect.fails("node 3", Expect.INDEX, () -> net.flush(3, 3));
        Expect.fails("destination -1", Expect.INDEX, () -> net.flush(0, -1));
        Expect.fails("the same", Expect.ARGUMENT, () -> net.flush(2, 2));
        net.inject(0, 4);
        net.inject(1, 3);
        net.inject(2, 2);
        Expect.same("an empty queue", net.flush(1, 2), 0);
        Expect.same("a change without effect", net.undoCount(), 4);
        Expect.same("flush", net.flush(0, 2), 7);
        Expect.same("lost of 0", net.flow(0, 5), 4);
        Expect.same("lost of 1", net.flow(1, 5), 3);
        Expect.same("lost of 2", net.flow(2, 5), 0);
        Expect.same("arrived of 0", net.flow(0, 4), 4);
        Expect.same("queue", net.queue(0, 2), 0);
        Expect.same("other queue", net.queue(0, 1), 2);
        Expect.same("packets", net.total(1), 2);
        Expect.fails("no budget is left", Expect.ELEMENT, net::urgent);
        Expect.same("inject again", net.inject(1, 1), 1);
        Expect.same("flow of the first packet", net.packet(0, 2, 0, 0), 1);
        net.undo();
        net.undo();
        Expect.same("undone", net.queue(0, 2), 7);
        Expect.same("flow of the fifth packet", net.packet(0, 2, 4, 0), 1);
    }

    private static void resetShadows() {
        PressureNet net = Expect.net("net 3;flow 0 2 300;flow 1 0 200;excess 0");
        Expect.same("nothing yet", net.resetShadows(), 0);
        net.run(2);
        Expect.same("shadow", net.shadow(0, 2), 6);
        Expect.same("resetShadows", net.resetShadows(), 10);
        Expect.same("shadow behind", net.shadow(0, 2), 0);
        Expect.same("sum", net.total(3), 0);
        Expect.same("the queues stay", net.queue(0, 2), 6);
        Expect.same("changes", net.undoCount(), 3);
    }

    private static void runArguments() {
        PressureNet net = new PressureNet();
        Expect.fails("run 0", Expect.ARGUMENT, () -> net.run(0));
        Expect.fails("run -1", Expect.ARGUMENT, () -> net.run(-1));
        Expect.fails("run 51", Expect.ARGUMENT, () -> net.run(51));
        Expect.fails("run greatest", Expect.ARGUMENT, () -> net.run(Integer.MAX_VALUE));
        Expect.same("slot", net.total(0), 0);
        Expect.same("no change", net.undoCount(), 0);
        Expect.same("run 1", net.run(1), 0);
        Expect.same("run 49", net.run(49), 1);
        Expect.same("run 50", net.run(50), 1);
        Expect.same("slot", net.total(0), 100);
        Expect.same("arrived", net.flow(0, 4), 50);
        Expect.same("delivered", net.flow(0, 6), 49);
        Expect.same("carried", net.link(0, 3), 50);
        Expect.same("three changes", net.undoCount(), 3);
    }

    private static void lastSlot() {
        PressureNet net = Expect.net("net 3;link 0 1 1;link 1 2 1;flow 0 2 37;excess 7");
        for (int i = 0; i < 199; i++) {
            net.run(50);
        }
        net.run(40);
        Expect.same("slot", net.total(0), 9990);
        Expect.fails("run to 10000", Expect.ARGUMENT, () -> net.run(10));
        Expect.fails("run to 10040", Expect.ARGUMENT, () -> net.run(50));
        Expect.same("slot stays", net.total(0), 9990);
        net.run(9);
        Expect.same("slot", net.total(0), 9999);
        Expect.same("arrived", net.flow(0, 4), 3699);
        Expect.fails("run to 10000", Expect.ARGUMENT, () -> net.run(1));
        Expect.same("a forecast goes on", net.forecast(50, 0), 10049);
        Expect.same("arrivals go on", net.forecastFlow(0, 50, 4), 10049 * 37 / 100);
        Expect.same("undo", net.undo(), 5);
        Expect.same("slot", net.total(0), 9990);
    }

    private static void arrivals() {
        PressureNet net = Expect.net("net 3;flow 0 1 33;flow 0 1 250;excess 50");
        int packets = 0;
        int shadow = 0;
        for (int t = 0; t < 12; t++) {
            net.run(1);
            packets += (t + 1) * 33 / 100 - t * 33 / 100 + (t + 1) * 250 / 100 - t * 250 / 100;
            shadow += (t + 1) * 33 * 150 / 10000 - t * 33 * 150 / 10000
                + (t + 1) * 250 * 150 / 10000 - t * 250 * 150 / 10000;
            Expect.same("queue at " + t, net.queue(0, 1), packets);
            Expect.same("shadow at " + t, net.shadow(0, 1), shadow);
        }
        Expect.same("33 in 100", net.flow(0, 4), 3);
        Expect.same("250 in 100", net.flow(1, 4), 30);
        // In slot 3 the packets of flow 0 come before those of flow 1.
        Expect.same("order of flows", net.packet(0, 1, 7, 0), 0);
        Expect.same("its slot", net.packet(0, 1, 7, 1), 3);
        Expect.same("the one before", net.packet(0, 1, 6, 1), 2);
    }

    /** A packet goes over one link in a slot, also if the next link has a higher number. */
    private static void twoPhases() {
        PressureNet net = Expect.net("net 4;link 0 1 1;link 1 2 1;link 2 3 2;flow 0 3 0;flow 1 3 0");
        net.inject(0, 3);
        net.inject(1, 1);
        Expect.same("run", net.run(1), 4);
        Expect.same("queue 0", net.queue(0, 3), 2);
        Expect.same("queue 1", net.queue(1, 3), 1);
        Expect.same("it is the one from 0", net.packet(1, 3, 0, 0), 0);
        Expect.same("carried by one link", net.packet(1, 3, 0, 2), 1);
        Expect.same("been at 0 and 1", net.packet(1, 3, 0, 3), 3);
        Expect.same("queue 2", net.queue(2, 3), 1);
        Expect.same("it is the one from 1", net.packet(2, 3, 0, 0), 1);
        Expect.same("none delivered", net.flow(0, 6) + net.flow(1, 6), 0);
        Expect.same("run", net.run(1), 3);
        Expect.same("delivered", net.flow(1, 6), 1);
        Expect.same("its delay", net.flow(1, 9), 2);
        net.run(50);
        Expect.same("all delivered", net.flow(0, 6), 3);
    }

    /** Three links from one queue: they are served by number, the capacities alone count. */
    private static void sharedQueue() {
        PressureNet net = Expect.net("net 4;link 0 1 2;link 0 2 3;link 0 3 2;flow 0 3 0;excess 0;flow 1 3 0;flow 2 3 0");
        net.inject(0, 6);
        int[] would = {2, 3, 1};
        for (int k = 0; k < 3; k++) {
            Expect.same("commodity", net.link(k, 4), 3);
            Expect.same("would carry " + k, net.link(k, 7), would[k]);
        }
        net.run(1);
        for (int k = 0; k < 3; k++) {
            Expect.same("carried " + k, net.link(k, 3), would[k]);
        }
        Expect.same("delivered", net.flow(0, 6), 1);
        Expect.same("delay", net.flow(0, 9), 1);
        Expect.same("queue 1", net.queue(1, 3), 2);
        Expect.same("queue 2", net.queue(2, 3), 3);
        Expect.same("no loops", net.flow(0, 8), 0);
    }

    private static void loops() {
        PressureNet net = Expect.net("net 3;link 0 1 1;link 1 0 1;flow 0 2 0");
        net.inject(0, 3);
        net.run(2);
        Expect.same("queue 0", net.queue(0, 2), 1);
        Expect.same("queue 1", net.queue(1, 2), 2);
        Expect.same("no loops yet", net.flow(0, 8), 0);
        net.run(1);
        Expect.same("queue 0", net.queue(0, 2), 2);
        Expect.same("a loop", net.flow(0, 8), 1);
        Expect.same("it is behind the other", net.packet(0, 2, 1, 2), 2);
        Expect.same("where it has been", net.packet(0, 2, 1, 3), 3);
        Expect.same("the other", net.packet(0, 2, 0, 2), 0);
        net.run(1);
        Expect.same("no loop of the third", net.flow(0, 8), 1);
        net.run(1);
        Expect.same("a second loop", net.flow(0, 8), 2);
    }

    private static void bias() {
        PressureNet net = Expect.net("net 4;link 0 1 1;link 1 0 2;link 1 2 3;flow 0 2 0;flow 1 3 0;bias 4");
        net.inject(0, 1);
        Expect.same("weight by distance", net.link(0, 5), 1 + 2 * 4 - 4);
        Expect.same("weight of an empty queue", net.link(1, 5), 0);
        net.run(1);
        Expect.same("back it is farther", net.link(1, 5), 0);
        Expect.same("its commodity all the same", net.link(1, 4), 2);
        Expect.same("weight to the goal", net.link(2, 5), 3 * (1 + 4));
        net.inject(1, 2);
        Expect.same("without a way the distance is the number of nodes", net.link(1, 5), 2 * 2);
        Expect.same("greater difference", net.link(1, 4), 3);
        Expect.same("5 to 2", net.link(2, 4), 2);
        net.set(2, 0);
        Expect.same("2 to 1", net.link(2, 4), 3);
        net.inject(0, 1);
        net.flush(1, 3);
        net.flush(0, 2);
        net.inject(1, 1);
        Expect.same("of two the lower", net.link(2, 4), 2);
    }

    private static void shadowMode() {
        PressureNet net = Expect.net("net 3;link 0 1 3;link 1 2 2;flow 0 2 200;mode shadow;excess 50");
        net.run(1);
        Expect.same("shadow 0", net.shadow(0, 2), 0);
        Expect.same("shadow 1", net.shadow(1, 2), 3);
        Expect.same("queue 1", net.queue(1, 2), 2);
        Expect.same("carried are packets", net.link(0, 3), 2);
        net.run(1);
        // 3 came; differences: link 0: 3 - 3, link 1: 3 - 0
        Expect.same("shadow 0", net.shadow(0, 2), 3);
        Expect.same("shadow 1", net.shadow(1, 2), 1);
        Expect.same("sum", net.total(3), 4);
        Expect.same("squares", net.total(5), 10);
        Expect.same("delivered", net.flow(0, 6), 2);
        net.flush(0, 2);
        net.flush(1, 2);
        Expect.same("shadows move without packets", net.link(0, 5), 3 * 2);
        Expect.same("but no packets", net.link(0, 7), 0);
        net.setRate(0, 0);
        net.run(1);
        Expect.same("shadow 0", net.shadow(0, 2), 0);
        Expect.same("shadow 1", net.shadow(1, 2), 3);
        Expect.same("carried", net.link(0, 3), 2);
        net.inject(0, 4);
        Expect.same("no shadow, no commodity", net.link(0, 4), -1);
        net.run(50);
        Expect.same("packets without a shadow stay", net.queue(0, 2), 4);
    }

    /** A star of conflicts: the middle is the heaviest link, the outer ones are more together. */
    private static void greedyAndExact() {
        String text = "net 4;link 0 1 3;link 1 2 2;link 2 3 2;flow 0 1 0;flow 1 2 0;flow 2 3 0;conflict 0 1;conflict 1 2";
        PressureNet net = Expect.net(text);
        net.inject(0, 1);
        net.inject(1, 2);
        net.inject(2, 1);
        Expect.same("greedy", net.schedule(0), 2);
        Expect.same("exact", net.schedule(1), 5);
        Expect.same("by the setting", net.run(1), 2);
        net.undo();
        net.set(3, 1);
        Expect.same("by the setting exact", net.run(1), 2);
        Expect.same("1 is left", net.queue(1, 2), 2);
    }

    private static void expiry() {
        PressureNet net = Expect.net("net 3;link 0 1 1;link 1 2 1;flow 0 2 0 budget 2;flow 0 2 0");
        net.inject(0, 1);
        net.inject(1, 1);
        net.inject(0, 2);
        net.inject(1, 1);
        net.run(1);
        Expect.same("none expired", net.flow(0, 7), 0);
        net.run(1);
        // The first one was delivered in time; the two others are removed between the others.
        Expect.same("delivered", net.flow(0, 6), 1);
        Expect.same("delay", net.flow(0, 9), 2);
        Expect.same("expired", net.flow(0, 7), 2);
        Expect.same("of the flow without budget", net.flow(1, 7), 0);
        Expect.same("packets", net.total(1), 2);
        Expect.same("peak is behind the slot", net.total(2), 5);
        net.setBudget(1, 3);
        net.run(1);
        Expect.same("expired by the new budget", net.flow(1, 6) + net.flow(1, 7), 2);
        Expect.same("packets", net.total(1), 0);
    }

    private static void fullNet() {
        PressureNet net = Expect.net("net 2;link 0 1 5;flow 0 1 300;flow 1 0 300;excess 0");
        for (int i = 0; i < 4; i++) {
            net.inject(1, 100);
        }
        net.inject(0, 96);
        Expect.same("run", net.run(1), 495);
        Expect.same("3 found room", net.flow(0, 5), 0);
        Expect.same("1 found room", net.flow(1, 5), 2);
        Expect.same("the shadow of lost ones grows", net.shadow(1, 0), 3);
        Expect.same("a shadow shrinks by what there is", net.shadow(0, 1), 0);
        Expect.same("peak", net.total(2), 495);
        Expect.same("run", net.run(1), 495);
        Expect.same("lost", net.flow(1, 5), 3);
        Expect.same("arrived", net.flow(1, 4), 406);
        Expect.same("queue", net.queue(1, 0), 403);
    }
}
