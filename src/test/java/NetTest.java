import java.util.Random;

/** Promises 21 to 28. */
public final class NetTest {
    public static void main(String[] args) {
        count();
        link();
        conflicts();
        flow();
        hops();
        maxFlowAndCut();
        backwards();
        allCuts();
        overloaded();
        Expect.end("NetTest");
    }

    private static void count() {
        PressureNet net = Expect.net("net 7;link 0 1 1;flow 0 1 1;flow 0 1 1;mode shadow;excess 33;bias 12;scheduler exact");
        int[] due = {7, 1, 2, 1, 33, 12, 1};
        for (int what = 0; what < due.length; what++) {
            Expect.same("count " + what, net.count(what), due[what]);
        }
        Expect.fails("count -1", Expect.ARGUMENT, () -> net.count(-1));
        Expect.fails("count 7", Expect.ARGUMENT, () -> net.count(7));
    }

    private static void link() {
        PressureNet net = Expect.net("net 4;link 3 1 4;link 1 0 2;link 3 2 5;conflict 0 2;flow 3 0 0;flow 3 2 0");
        Expect.fails("link -1", Expect.INDEX, () -> net.link(-1, 0));
        Expect.fails("index first", Expect.INDEX, () -> net.link(3, 8));
        Expect.fails("what -1", Expect.ARGUMENT, () -> net.link(0, -1));
        Expect.fails("what 8", Expect.ARGUMENT, () -> net.link(2, 8));
        net.inject(0, 6);
        net.inject(1, 3);
        int[][] due = {{3, 1, 4, 0, 0, 24, 0, 0}, {1, 0, 2, 0, -1, 0, 0, 0}, {3, 2, 5, 0, 0, 30, 1, 5}};
        for (int k = 0; k < 3; k++) {
            for (int what = 0; what < 8; what++) {
                Expect.same("link " + k + " " + what, net.link(k, what), due[k][what]);
            }
        }
        net.setRate(1, 300);
        Expect.same("arrivals of the next slot do not count", net.link(2, 4), 0);
        net.setConflict(0, 2, false);
        Expect.same("4 of 6", net.link(0, 7), 4);
        Expect.same("2 are left", net.link(2, 7), 2);
        net.setRate(1, 0);
        net.run(1);
        Expect.same("carried by 0", net.link(0, 3), 4);
        Expect.same("carried by 2", net.link(2, 3), 2);
        Expect.same("commodity", net.link(2, 4), 2);
        Expect.same("weight", net.link(2, 5), 15);
        Expect.same("scheduled", net.link(2, 6), 1);
        Expect.same("link 0 takes all 3 first", net.link(0, 7), 3);
        Expect.same("scheduled, but nothing is left", net.link(2, 7), 0);
        Expect.same("a negative difference has a commodity", net.link(0, 4), 2);
        Expect.same("weight 12", net.link(0, 5), 12);
        net.flush(3, 2);
        net.inject(0, 1);
        Expect.same("1 - 4 is negative", net.link(0, 5), 0);
        Expect.same("its commodity", net.link(0, 4), 0);
        Expect.same("not scheduled", net.link(0, 6), 0);
        Expect.same("would carry none", net.link(0, 7), 0);
    }

    private static void conflicts() {
        PressureNet net = Expect.net("net 3;link 0 1 1;link 1 0 1;link 0 2 1;link 2 0 1;conflict 3 0;conflict 0 1");
        int[] due = {10, 1, 0, 1};
        for (int k = 0; k < 4; k++) {
            Expect.same("conflicts " + k, net.conflicts(k), due[k]);
        }
        Expect.fails("conflicts -1", Expect.INDEX, () -> net.conflicts(-1));
        Expect.fails("conflicts 4", Expect.INDEX, () -> net.conflicts(4));
    }

    private static void flow() {
        PressureNet net = Expect.net("net 3;link 2 0 3;link 0 1 1;flow 0 1 20;flow 2 1 110 budget 4");
        Expect.fails("flow 2", Expect.INDEX, () -> net.flow(2, 11));
        Expect.fails("flow -1", Expect.INDEX, () -> net.flow(-1, 0));
        Expect.fails("what -1", Expect.ARGUMENT, () -> net.flow(0, -1));
        Expect.fails("what 11", Expect.ARGUMENT, () -> net.flow(0, 11));
        net.inject(1, 8);
        net.run(6);
        net.flush(0, 1);
        Expect.same("source", net.flow(1, 0), 2);
        Expect.same("destination", net.flow(1, 1), 1);
        Expect.same("rate", net.flow(1, 2), 110);
        Expect.same("budget", net.flow(1, 3), 4);
        Expect.same("arrived", net.flow(1, 4), 14);
        int gone = net.flow(1, 5) + net.flow(1, 6) + net.flow(1, 7);
        Expect.same("lost, delivered, expired or there", gone + net.queue(2, 1), 14);
        Expect.same("arrived of 0", net.flow(0, 4), 1);
        PressureNet fresh = new PressureNet();
        Expect.same("greatest delay of none", fresh.flow(0, 10), 0);
        fresh.inject(0, 2);
        fresh.setRate(0, 0);
        fresh.run(3);
        Expect.same("the first one", fresh.flow(0, 9), 2);
        fresh.run(5);
        Expect.same("delivered", fresh.flow(0, 6), 2);
        Expect.same("the second waits one slot more", fresh.flow(0, 9), 2 + fresh.flow(0, 10));
        Expect.same("greatest delay", fresh.flow(0, 10), 4);
    }

    private static void hops() {
        PressureNet net = Expect.net("net 5;link 0 1 1;link 1 2 1;link 2 3 1;link 3 0 1;link 0 3 1");
        int[][] due = {{0, 1, 2, 1, 5}, {3, 0, 1, 2, 5}, {2, 3, 0, 1, 5}, {1, 2, 3, 0, 5}, {5, 5, 5, 5, 0}};
        for (int n = 0; n < 5; n++) {
            for (int d = 0; d < 5; d++) {
                Expect.same("hops " + n + " " + d, net.hops(n, d), due[n][d]);
            }
        }
        net.addLink(4, 2, 1);
        net.addLink(1, 4, 1);
        Expect.same("4 to 0", net.hops(4, 0), 3);
        Expect.same("0 to 4", net.hops(0, 4), 2);
        Expect.fails("hops -1", Expect.INDEX, () -> net.hops(-1, 0));
        Expect.fails("hops to 5", Expect.INDEX, () -> net.hops(0, 5));
    }

    private static void maxFlowAndCut() {
        PressureNet net = Expect.net("net 5;link 0 1 3;link 0 2 2;link 1 3 2;link 2 3 4;link 3 4 5;link 4 0 5;conflict 0 1");
        Expect.same("maxFlow", net.maxFlow(0, 4), 4);
        Expect.same("smallest side", net.cutSide(0, 4), 0b00011);
        Expect.same("maxFlow back", net.maxFlow(4, 0), 5);
        Expect.same("smallest side back", net.cutSide(4, 0), 0b10000);
        Expect.same("3 to 1", net.maxFlow(3, 1), 3);
        Expect.same("side", net.cutSide(3, 1), 0b11101);
        Expect.same("1 to 2", net.maxFlow(1, 2), 2);
        // {1} and {0, 1, 3, 4} are both left by links of the sum 2
        Expect.same("side", net.cutSide(1, 2), 0b00010);
        net.setCapacity(2, 5);
        Expect.same("changes count", net.maxFlow(0, 4), 5);
        Expect.same("the smallest of three", net.cutSide(0, 4), 1);
        PressureNet none = Expect.net("net 3;link 0 1 5");
        Expect.same("no way", none.maxFlow(0, 2), 0);
        Expect.same("the side of no way", none.cutSide(0, 2), 3);
        Expect.same("no link", none.cutSide(2, 0), 4);
        for (int i = 0; i < 2; i++) {
            boolean cut = i == 1;
            Expect.fails("node 3", Expect.INDEX, () -> cut ? none.cutSide(3, 3) : none.maxFlow(3, 3));
            Expect.fails("node -1", Expect.INDEX, () -> cut ? none.cutSide(0, -1) : none.maxFlow(0, -1));
            Expect.fails("the same", Expect.ARGUMENT, () -> cut ? none.cutSide(1, 1) : none.maxFlow(1, 1));
        }
    }

    /** The first way found may have to give a link back. */
    private static void backwards() {
        PressureNet net = Expect.net("net 4;link 0 1 1;link 1 2 1;link 2 3 1;link 0 2 1;link 1 3 1");
        Expect.same("maxFlow", net.maxFlow(0, 3), 2);
        Expect.same("side", net.cutSide(0, 3), 1);
        PressureNet greater = Expect.net("net 6;link 0 1 5;link 1 2 5;link 2 5 5;link 0 3 5;link 3 2 5;link 1 4 5;link 4 5 5");
        Expect.same("maxFlow", greater.maxFlow(0, 5), 10);
        Expect.same("side", greater.cutSide(0, 5), 1);
        PressureNet wide = Expect.net("net 9");
        for (int n = 1; n < 8; n++) {
            wide.addLink(0, n, 5);
            wide.addLink(n, 8, 5);
        }
        Expect.same("14 links of 5", wide.maxFlow(0, 8), 35);
        Expect.same("side", wide.cutSide(0, 8), 1);
    }

    /** The greatest flow is the least sum of capacities that leave a set; the smallest such set is the side. */
    private static void allCuts() {
        Random random = new Random(7);
        for (int round = 0; round < 60; round++) {
            int nodes = 4 + random.nextInt(4);
            PressureNet net = Expect.net("net " + nodes);
            int[][] capacity = new int[nodes][nodes];
            for (int i = 0; i < 40 && net.count(1) < 14; i++) {
                int from = random.nextInt(nodes);
                int to = random.nextInt(nodes);
                if (from != to && capacity[from][to] == 0) {
                    capacity[from][to] = 1 + random.nextInt(5);
                    net.addLink(from, to, capacity[from][to]);
                }
            }
            for (int from = 0; from < nodes; from++) {
                for (int to = 0; to < nodes; to++) {
                    if (from != to) {
                        cut(net, capacity, from, to);
                    }
                }
            }
        }
    }

    private static void cut(PressureNet net, int[][] capacity, int from, int to) {
        int least = Integer.MAX_VALUE;
        int smallest = 0;
        for (int set = 0; set < 1 << capacity.length; set++) {
            if ((set >> from & 1) == 0 || (set >> to & 1) == 1) {
                continue;
            }
            int sum = 0;
            for (int a = 0; a < capacity.length; a++) {
                for (int b = 0; b < capacity.length; b++) {
                    sum += (set >> a & 1) == 1 && (set >> b & 1) == 0 ? capacity[a][b] : 0;
                }
            }
            if (sum < least || sum == least && Integer.bitCount(set) < Integer.bitCount(smallest)) {
                least = sum;
                smallest = set;
            }
        }
        Expect.same("maxFlow as by all cuts", net.maxFlow(from, to), least);
        Expect.same("cutSide as by all cuts", net.cutSide(from, to), smallest);
    }

    private static void overloaded() {
        PressureNet net = Expect.net("net 4;link 0 1 1;link 1 2 2;flow 0 2 100;flow 0 2 101;flow 1 2 200;flow 1 2 201;flow 3 0 0;flow 0 3 1");
        Expect.same("overloaded", net.overloaded(), 0b101010);
        net.setRate(1, 100);
        net.setCapacity(1, 3);
        Expect.same("overloaded", net.overloaded(), 0b100000);
        Expect.same("no flows", Expect.net("net 2").overloaded(), 0);
    }
}
