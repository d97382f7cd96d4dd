/** Promises 38 to 44. */
public final class LookAheadTest {
    public static void main(String[] args) {
        arguments();
        forecast();
        slotsToFull();
        bestBias();
        bestExcess();
        bestSettings();
        sustainable();
        againstRuns();
        Expect.end("LookAheadTest");
    }

    private static void arguments() {
        PressureNet net = new PressureNet();
        for (int bad : new int[] {-1, 0, 51, Integer.MAX_VALUE, Integer.MIN_VALUE}) {
            Expect.fails("forecast", Expect.ARGUMENT, () -> net.forecast(bad, 0));
            Expect.fails("forecastFlow", Expect.ARGUMENT, () -> net.forecastFlow(0, bad, 0));
            Expect.fails("forecastFlow index first", Expect.INDEX, () -> net.forecastFlow(1, bad, 0));
            Expect.fails("slotsToFull", Expect.ARGUMENT, () -> net.slotsToFull(bad, 500));
            Expect.fails("bestBias", Expect.ARGUMENT, () -> net.bestBias(bad));
            Expect.fails("bestExcess", Expect.ARGUMENT, () -> net.bestExcess(bad));
            Expect.fails("bestSettings", Expect.ARGUMENT, () -> net.bestSettings(bad));
            Expect.fails("sustainable", Expect.ARGUMENT, () -> net.sustainable(0, bad));
            Expect.fails("sustainable index first", Expect.INDEX, () -> net.sustainable(-1, bad));
        }
        Expect.fails("forecast what -1", Expect.ARGUMENT, () -> net.forecast(1, -1));
        Expect.fails("forecast what 6", Expect.ARGUMENT, () -> net.forecast(1, 6));
        Expect.fails("forecastFlow what -1", Expect.ARGUMENT, () -> net.forecastFlow(0, 1, -1));
        Expect.fails("forecastFlow what 11", Expect.ARGUMENT, () -> net.forecastFlow(0, 1, 11));
        Expect.fails("forecastFlow flow 1", Expect.INDEX, () -> net.forecastFlow(1, 1, 11));
        Expect.fails("slotsToFull 0 packets", Expect.ARGUMENT, () -> net.slotsToFull(1, 0));
        Expect.fails("slotsToFull 501 packets", Expect.ARGUMENT, () -> net.slotsToFull(1, 501));
        Expect.fails("sustainable 21", Expect.ARGUMENT, () -> net.sustainable(0, 21));
        Expect.fails("sustainable flow 1", Expect.INDEX, () -> net.sustainable(1, 20));
        Expect.same("no change", net.undoCount(), 0);
    }

    private static void forecast() {
        PressureNet net = Expect.net("net 3;link 0 1 1;link 1 2 1;flow 0 2 300;excess 20");
        net.run(2);
        net.flush(0, 2);
        Expect.same("slot", net.forecast(50, 0), 52);
        Expect.same("packets", net.forecast(1, 1), 3);
        Expect.same("peak of the past", net.forecast(1, 2), 5);
        Expect.same("peak", net.forecast(3, 2), 7);
        Expect.same("arrived", net.forecastFlow(0, 10, 4), 36);
        Expect.same("lost", net.forecastFlow(0, 10, 5), 4);
        Expect.same("source", net.forecastFlow(0, 10, 0), 0);
        Expect.same("rate", net.forecastFlow(0, 10, 2), 300);
        Expect.same("nothing changed", net.total(0), 2);
        Expect.same("history", net.undoCount(), 2);
    }

    private static void slotsToFull() {
        PressureNet net = Expect.net("net 2;flow 0 1 100");
        Expect.same("1 packet", net.slotsToFull(50, 1), 1);
        Expect.same("50 packets", net.slotsToFull(50, 50), 50);
        Expect.fails("51 packets", Expect.ELEMENT, () -> net.slotsToFull(50, 51));
        net.inject(0, 10);
        Expect.same("10 are there", net.slotsToFull(1, 10), 0);
        Expect.same("11 packets", net.slotsToFull(1, 11), 1);
        Expect.fails("12 packets in 1 slot", Expect.ELEMENT, () -> net.slotsToFull(1, 12));
        Expect.same("at least", net.slotsToFull(1, 3), 0);
        net.setBudget(0, 1);
        Expect.fails("behind a slot they expired", Expect.ELEMENT, () -> net.slotsToFull(50, 11));
        Expect.fails("argument before", Expect.ARGUMENT, () -> net.slotsToFull(51, 500));
        Expect.same("slot", net.total(0), 0);
    }

    /** bestBias() by runs that are undone. */
    static int slowBias(PressureNet net, int slots) {
        int best = -1;
        long least = 0;
        for (int bias = 0; bias <= 20; bias++) {
            net.set(2, bias);
            net.run(slots);
            long bad = 100000 * net.total(1);
            for (int flow = 0; flow < net.count(2); flow++) {
                bad += net.flow(flow, 8);
            }
            if (best < 0 || bad < least) {
                best = bias;
                least = bad;
            }
            net.undo();
            net.undo();
        }
        return best;
    }

    /** Node 3 is a dead end beside the way 0, 1, 2: a bias keeps packets out of it. */
    private static void bestBias() {
        String deadEnd = "net 4;link 0 1 2;link 1 3 2;link 3 1 2;link 1 2 1;bias 9;flow 0 2 ";
        PressureNet net = Expect.net(deadEnd + "90");
        net.inject(0, 6);
        // The fewest packets are 6, from bias 2 on; there are no loops from bias 6 on.
        Expect.same("by loops", net.bestBias(9), 6);
        Expect.same("by packets and loops", net.bestBias(40), slowBias(net, 40));
        Expect.same("all alike", net.bestBias(1), 0);
        Expect.same("the bias stays", net.count(5), 9);
        PressureNet few = Expect.net(deadEnd + "0;conflict 1 3");
        few.inject(0, 6);
        Expect.same("against runs", few.bestBias(9), slowBias(few, 9));
        Expect.same("2 is enough", few.bestBias(20), 2);
    }

    private static void bestExcess() {
        PressureNet net = Expect.net("net 4;link 0 1 2;link 1 2 2;link 2 3 2;flow 0 3 150;excess 7");
        net.inject(0, 20);
        int best = -1;
        int most = -1;
        for (int excess = 0; excess <= 50; excess += 10) {
            net.set(0, 1);
            net.set(1, excess);
            net.run(30);
            if (net.flow(0, 6) > most) {
                most = net.flow(0, 6);
                best = excess;
            }
            net.undo();
            net.undo();
            net.undo();
        }
        Expect.same("bestExcess", net.bestExcess(30), best);
        Expect.same("it is not 0", best > 0 ? 1 : 0, 1);
        Expect.same("all alike", net.bestExcess(1), 0);
        Expect.same("mode stays", net.count(3), 0);
        Expect.same("excess stays", net.count(4), 7);
    }

    private static void bestSettings() {
        String star = "net 4;link 0 1 3;link 1 2 2;link 2 3 2;flow 0 1 0;flow 1 2 0;flow 2 3 0;conflict 0 1;conflict 1 2";
        PressureNet exact = Expect.net(star);
        exact.inject(0, 4);
        exact.inject(1, 7);
        exact.inject(2, 4);
        // greedy sends from 1 (49 > 25 + ..), exact from 0 and 2; mode 1 has no shadows
        exact.run(1);
        Expect.same("greedy", exact.total(4), 16 + 25 + 16);
        exact.undo();
        exact.set(3, 1);
        exact.run(1);
        Expect.same("exact", exact.total(4), 1 + 49 + 4);
        exact.undo();
        exact.undo();
        Expect.same("exact is better", exact.bestSettings(1), 1);
        Expect.same("all alike", Expect.net("net 2").bestSettings(50), 0);
        PressureNet shadow = Expect.net("net 3;link 0 1 1;link 1 0 1;flow 0 1 0;flow 0 2 200");
        shadow.inject(0, 1);
        shadow.run(1);
        Expect.same("the settings stay", shadow.count(3) + shadow.count(6), 0);
        int best = -1;
        long least = 0;
        for (int pair : new int[] {0, 1, 10, 11}) {
            shadow.set(0, pair / 10);
            shadow.set(3, pair % 10);
            shadow.run(5);
            if (best < 0 || shadow.total(4) < least) {
                least = shadow.total(4);
                best = pair;
            }
            shadow.undo();
            shadow.undo();
            shadow.undo();
        }
        Expect.same("bestSettings", shadow.bestSettings(5), best);
        PressureNet dull = Expect.net("net 3;link 0 1 1;link 1 0 5;link 1 2 1;flow 0 2 100;flow 1 0 0;conflict 1 2");
        dull.run(3);
        dull.inject(1, 100);
        // In mode 0 the queue of 1 for 0 is sent with 5 in each slot, in mode 1 it has no shadow.
        Expect.same("mode 0", dull.bestSettings(10) / 10, 0);
        PressureNet swift = Expect.net("net 3;link 0 1 1;link 0 2 5;conflict 0 1;flow 0 1 100;flow 0 2 300;flow 1 0 100");
        swift.run(3);
        Expect.same("against runs", swift.bestSettings(20), slow(swift, 20));
    }

    private static int slow(PressureNet net, int slots) {
        int best = -1;
        long least = 0;
        for (int pair : new int[] {0, 1, 10, 11}) {
            net.set(0, pair / 10);
            net.set(3, pair % 10);
            net.run(slots);
            if (best < 0 || net.total(4) < least) {
                least = net.total(4);
                best = pair;
            }
            net.undo();
            net.undo();
            net.undo();
        }
        return best;
    }

    private static void sustainable() {
        PressureNet net = Expect.net("net 2;link 0 1 1;flow 0 1 0;flow 0 1 0");
        Expect.same("300", net.sustainable(0, 20), 300);
        net.inject(0, 100);
        // one goes in each slot, and one may come in each slot
        Expect.same("only behind 20 slots", net.sustainable(0, 20), 104);
        Expect.same("behind 1 slot", net.sustainable(0, 1), 199);
        Expect.same("the other flow", net.sustainable(1, 20), 104);
        net.inject(0, 1);
        Expect.same("100 are left behind the slot", net.sustainable(0, 1), 99);
        net.inject(0, 1);
        Expect.same("not for 0", net.sustainable(0, 1), PressureNet.NONE);
        net.setBudget(0, 1);
        Expect.same("they expire", net.sustainable(0, 20), 300);
        Expect.same("the rate stays", net.flow(0, 2), 0);
        PressureNet late = Expect.net("net 2;flow 0 1 0");
        late.run(50);
        late.run(49);
        late.inject(0, 100);
        // In slot 99 a packet of a flow of the rate 1 comes.
        Expect.same("0 is enough, 1 too much", late.sustainable(0, 1), 0);
        late.undo();
        late.inject(0, 99);
        Expect.same("rate 100 brings one packet", late.sustainable(0, 1), 100);
    }

    /** For any net, what is foretold comes. */
    private static void againstRuns() {
        PressureNet net = Expect.net("net 5;link 0 1 2;link 1 2 1;link 2 0 1;link 2 3 2;link 1 3 1;link 3 4 3;"
            + "conflict 0 1;conflict 1 3;conflict 4 5;flow 0 4 170 budget 12;flow 2 1 60;flow 1 4 90;bias 2;scheduler exact");
        for (int round = 0; round < 5; round++) {
            long[] totals = new long[6];
            int[] numbers = new int[33];
            for (int what = 0; what < 6; what++) {
                totals[what] = net.forecast(7, what);
            }
            for (int i = 0; i < 33; i++) {
                numbers[i] = net.forecastFlow(i / 11, 7, i % 11);
            }
            net.run(7);
            for (int what = 0; what < 6; what++) {
                Expect.same("forecast " + what, totals[what], net.total(what));
            }
            for (int i = 0; i < 33; i++) {
                Expect.same("forecastFlow " + i, numbers[i], net.flow(i / 11, i % 11));
            }
        }
    }
}
