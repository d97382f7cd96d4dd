/** Promises 36 and 37. */
public final class SchedulesTest {
    public static void main(String[] args) {
        arguments();
        ties();
        exactTies();
        noArrivals();
        manyConflicts();
        Expect.end("SchedulesTest");
    }

    private static void arguments() {
        PressureNet net = new PressureNet();
        Expect.fails("schedule -1", Expect.ARGUMENT, () -> net.schedule(-1));
        Expect.fails("schedule 2", Expect.ARGUMENT, () -> net.schedule(2));
        Expect.fails("scheduleWeight -1", Expect.ARGUMENT, () -> net.scheduleWeight(-1));
        Expect.fails("scheduleWeight 2", Expect.ARGUMENT, () -> net.scheduleWeight(2));
        Expect.same("nothing to do", net.schedule(1), 0);
        Expect.same("no weight", net.scheduleWeight(1), 0);
        Expect.same("no links", Expect.net("net 2;flow 0 1 300").schedule(1), 0);
    }

    private static final String FOUR = "net 8;link 0 1 1;link 2 3 1;link 4 5 1;link 6 7 1;"
        + "flow 0 1 0;flow 2 3 0;flow 4 5 0;flow 6 7 0;";

    private static PressureNet four(String more, int a, int b, int c, int d) {
        PressureNet net = Expect.net(FOUR + more);
        net.inject(0, a);
        net.inject(1, b);
        net.inject(2, c);
        net.inject(3, d);
        return net;
    }

    private static void both(PressureNet net, int greedy, int greedyWeight, int exact, int exactWeight) {
        // The weights are asked first, so that they cannot rest on the sets.
        Expect.same("weight of greedy", net.scheduleWeight(0), greedyWeight);
        Expect.same("weight of exact", net.scheduleWeight(1), exactWeight);
        Expect.same("greedy", net.schedule(0), greedy);
        Expect.same("exact", net.schedule(1), exact);
        net.set(3, 1);
        Expect.same("the setting does not matter", net.schedule(0), greedy);
        for (int k = 0; k < 4; k++) {
            Expect.same("scheduled " + k, net.link(k, 6), exact >> k & 1);
        }
    }

    private static void ties() {
        both(four("bias 0", 1, 2, 3, 4), 15, 10, 15, 10);
        // of equal weights greedy takes the lower number first
        both(four("conflict 0 1;conflict 1 2;conflict 2 3", 5, 5, 5, 5), 0b0101, 10, 0b0101, 10);
        both(four("conflict 0 3", 5, 1, 1, 5), 0b0111, 7, 0b0111, 7);
        both(four("conflict 0 3", 5, 1, 1, 6), 0b1110, 8, 0b1110, 8);
        // the greatest first is not the best
        both(four("conflict 0 1;conflict 1 2", 2, 3, 2, 1), 0b1010, 4, 0b1101, 5);
    }

    private static void exactTies() {
        // {0, 3} and {1, 2} have 6 each: the lower number is {1, 2}
        both(four("conflict 0 1;conflict 0 2;conflict 3 1;conflict 3 2", 1, 4, 2, 5), 0b1001, 6, 0b0110, 6);
        // {3} alone against {0, 1, 2}
        both(four("conflict 3 0;conflict 3 1;conflict 3 2", 2, 2, 2, 6), 0b1000, 6, 0b0111, 6);
        both(four("conflict 3 0;conflict 3 1;conflict 3 2", 2, 2, 2, 7), 0b1000, 7, 0b1000, 7);
    }

    private static void noArrivals() {
        PressureNet net = Expect.net("net 2;link 0 1 2;flow 0 1 300;mode shadow");
        Expect.same("no packets arrive in it", net.schedule(0), 0);
        net.inject(0, 4);
        Expect.same("mode 1 looks at shadows", net.schedule(1), 0);
        Expect.same("weight", net.scheduleWeight(1), 0);
        net.run(1);
        Expect.same("shadow", net.shadow(0, 1), 1);
        Expect.same("weight", net.scheduleWeight(0), 2);
        net.set(0, 0);
        Expect.same("queue", net.queue(0, 1), 5);
        Expect.same("weight of the queue", net.scheduleWeight(0), 10);
    }

    /** A ring of 14 links in conflict with their neighbours. */
    private static void manyConflicts() {
        PressureNet net = Expect.net("net 10");
        for (int i = 0; i < 14; i++) {
            net.addLink(i % 7, i < 7 ? 7 : 8, i % 5 + 1);
        }
        for (int i = 0; i < 14; i++) {
            net.setConflict(i, (i + 1) % 14, true);
        }
        for (int i = 0; i < 6; i++) {
            net.addFlow(i, 9, 0, 0);
            net.inject(i, 10 + i);
        }
        int[] weight = new int[14];
        for (int k = 0; k < 14; k++) {
            weight[k] = net.link(k, 5);
            Expect.same("weight " + k, weight[k], k % 7 == 6 ? 0 : (k % 5 + 1) * (10 + k % 7));
        }
        int best = 0;
        int most = 0;
        for (int set = 0; set < 1 << 14; set++) {
            int sum = 0;
            boolean fits = (set & (set << 1 | set >> 13)) == 0;
            for (int k = 0; k < 14 && fits; k++) {
                sum += (set >> k & 1) * weight[k];
                fits = (set >> k & 1) == 0 || weight[k] > 0;
            }
            if (fits && sum > most) {
                most = sum;
                best = set;
            }
        }
        Expect.same("exact", net.schedule(1), best);
        Expect.same("weight of exact", net.scheduleWeight(1), most);
    }
}
