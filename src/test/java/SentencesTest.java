import java.util.Arrays;
import java.util.Random;

/**
 * Sentences of the document that the other tests held by long runs of calls alone, in the order of
 * the document; one method for each.
 */
public final class SentencesTest {
    public static void main(String[] args) {
        distancesOfAnyNet();
        shadowsOfEachNode();
        biasCountsInBothModes();
        equalWeightsOfOtherCapacities();
        schedulesOfAnyNet();
        packetsAreTakenByCapacityAlone();
        packetsArriveInTheOrderTaken();
        loopsAreOfTheFlowOfThePacket();
        loopsInShadowMode();
        greatestDelayIsNotTheLatest();
        expiryAtAnyNode();
        expiryLeavesShadows();
        budgetOfOneFlowOfThree();
        peakBehindEachSlotOfARun();
        settingChangesNothingElse();
        resetOfAllShadows();
        servedFromTheSameNodeOnly();
        meanDelayOfOneFlowAlone();
        forecastGoesOnFromNow();
        slotsToFullLooksAtThePacketsThere();
        bestBiasByPacketsThenLoopsOfAllFlows();
        bestExcessByDeliveredPacketsOfAllFlows();
        settingsOfNowHold();
        sustainableForgetsThePast();
        aheadAsByRuns();
        Expect.end("SentencesTest");
    }

    // ---- Sections 1 and 2

    /** The distance is the least number of links of a way, in any net and in any order of its links. */
    private static void distancesOfAnyNet() {
        Random random = new Random(3);
        for (int round = 0; round < 40; round++) {
            int nodes = 2 + random.nextInt(9);
            PressureNet net = Expect.net("net " + nodes);
            int[][] due = new int[nodes][nodes];
            for (int n = 0; n < nodes; n++) {
                Arrays.fill(due[n], nodes);
                due[n][n] = 0;
            }
            for (int i = 0; i < 60 && net.count(1) < 14; i++) {
                int from = random.nextInt(nodes);
                int to = random.nextInt(nodes);
                if (from != to && due[from][to] != 1) {
                    net.addLink(from, to, 1);
                    due[from][to] = 1;
                }
            }
            shortestWays(due);
            for (int from = 0; from < nodes; from++) {
                for (int to = 0; to < nodes; to++) {
                    Expect.same("hops " + from + " " + to, net.hops(from, to), due[from][to]);
                }
            }
        }
    }

    private static void shortestWays(int[][] way) {
        for (int over = 0; over < way.length; over++) {
            for (int from = 0; from < way.length; from++) {
                for (int to = 0; to < way.length; to++) {
                    way[from][to] = Math.min(way[from][to], way[from][over] + way[over][to]);
                }
            }
        }
    }

    private static void shadowsOfEachNode() {
        PressureNet net = Expect.net("net 10;flow 9 8 100;flow 0 1 100;flow 4 5 100;flow 0 9 100;flow 9 0 100;excess 0");
        net.run(2);
        Expect.same("shadow of the last pair", net.shadow(9, 8), 2);
        Expect.same("sum of the shadows", net.total(3), 5 * 2);
        Expect.same("squares of the queues", net.total(4), 5 * 4);
        Expect.same("squares of the shadows", net.total(5), 5 * 4);
    }

    // ---- Section 3

    private static void biasCountsInBothModes() {
        String text = "net 3;link 0 1 1;link 1 2 1;flow 0 2 300;excess 0;bias 7;mode ";
        for (String mode : new String[] {"plain", "shadow"}) {
            PressureNet net = Expect.net(text + mode);
            net.run(1);
            // 3 came to node 0, 1 of them went to node 1; the distances are 2 and 1
            Expect.same("link 0, mode " + mode, net.link(0, 5), 2 + 2 * 7 - 1 - 7);
            Expect.same("link 1, mode " + mode, net.link(1, 5), 1 + 7);
        }
    }

    /** Of several links of the same weight greedy takes the lower number first, whatever its capacity. */
    private static void equalWeightsOfOtherCapacities() {
        int[][] cases = {{2, 3, 3, 2}, {3, 2, 2, 3}, {1, 5, 5, 1}, {5, 1, 1, 5}};
        for (int[] c : cases) {
            PressureNet net = Expect.net("net 4;link 0 1 " + c[0] + ";link 2 3 " + c[2]
                + ";conflict 0 1;flow 0 1 0;flow 2 3 0");
            net.inject(0, c[1]);
            net.inject(1, c[3]);
            Expect.same("greedy", net.schedule(0), 1);
            Expect.same("exact", net.schedule(1), 1);
            Expect.same("weight", net.scheduleWeight(0), c[0] * c[1]);
        }
    }

    private static void schedulesOfAnyNet() {
        Random random = new Random(5);
        for (int round = 0; round < 40; round++) {
            PressureNet net = Expect.net("net 10");
            for (int i = 0; i < 14; i++) {
                net.addLink(i % 7, i < 7 ? 7 : 8, 1 + random.nextInt(5));
            }
            for (int i = random.nextInt(30); i > 0; i--) {
                int link = random.nextInt(14);
                net.setConflict(link, (link + 1 + random.nextInt(13)) % 14, true);
            }
            for (int i = 0; i < 6; i++) {
                net.addFlow(i, 9, 0, 0);
                net.inject(i, 1 + random.nextInt(round < 20 ? 4 : 60));
            }
            int[] weight = new int[14];
            int[] conflicts = new int[14];
            for (int k = 0; k < 14; k++) {
                weight[k] = net.link(k, 5);
                conflicts[k] = net.conflicts(k);
            }
            int greedy = greedy(weight, conflicts);
            int exact = exact(weight, conflicts);
            Expect.same("greedy", net.schedule(0), greedy);
            Expect.same("exact", net.schedule(1), exact);
            Expect.same("weight of greedy", net.scheduleWeight(0), sum(weight, greedy));
            Expect.same("weight of exact", net.scheduleWeight(1), sum(weight, exact));
        }
    }

    private static int sum(int[] weight, int set) {
        int sum = 0;
        for (int k = 0; k < weight.length; k++) {
            sum += (set >> k & 1) * weight[k];
        }
        return sum;
    }

    /** Goes through the links by falling weight, and among alike ones by rising number. */
    private static int greedy(int[] weight, int[] conflicts) {
        int set = 0;
        for (int next = 5 * 500; next > 0; next--) {
            for (int k = 0; k < weight.length; k++) {
                if (weight[k] == next && (conflicts[k] & set) == 0) {
                    set |= 1 << k;
                }
            }
        }
        return set;
    }

    /** Looks at all sets, the lower number first. */
    private static int exact(int[] weight, int[] conflicts) {
        int best = 0;
        for (int set = 1; set < 1 << weight.length; set++) {
            boolean fits = true;
            for (int k = 0; k < weight.length && fits; k++) {
                fits = (set >> k & 1) == 0 || weight[k] > 0 && (conflicts[k] & set) == 0;
            }
            if (fits && sum(weight, set) > sum(weight, best)) {
                best = set;
            }
        }
        return best;
    }

    /** In mode 1 a shadow of 1 schedules the link; packets are taken by the capacity all the same. */
    private static void packetsAreTakenByCapacityAlone() {
        PressureNet net = Expect.net("net 2;link 0 1 5;flow 0 1 100;mode shadow;excess 0");
        net.inject(0, 9);
        Expect.same("5 of 10 are left", net.run(1), 5);
        Expect.same("5 were carried", net.link(0, 3), 5);
        Expect.same("the shadow is used up", net.shadow(0, 1), 0);
    }

    private static void packetsArriveInTheOrderTaken() {
        PressureNet net = Expect.net("net 3;link 0 1 5;flow 0 2 0;flow 0 2 0;flow 0 2 0");
        int[] order = {2, 0, 1, 1, 0, 2};
        for (int flow : order) {
            net.inject(flow, 1);
        }
        net.run(1);
        for (int i = 0; i < 5; i++) {
            Expect.same("packet " + i, net.packet(1, 2, i, 0), order[i]);
        }
        Expect.same("the last one stays", net.packet(0, 2, 0, 0), order[5]);
    }

    private static void loopsAreOfTheFlowOfThePacket() {
        PressureNet net = Expect.net("net 3;link 0 1 1;link 1 0 1;flow 0 2 0;flow 1 2 0;flow 0 2 0");
        net.inject(1, 1);
        net.run(2);
        int[] due = {0, 1, 0};
        for (int flow = 0; flow < 3; flow++) {
            Expect.same("loops of " + flow, net.flow(flow, 8), due[flow]);
        }
    }

    private static void loopsInShadowMode() {
        PressureNet net = Expect.net("net 3;link 0 1 1;link 1 0 1;flow 0 2 100;mode shadow;excess 0");
        net.run(1);
        net.setRate(0, 0);
        net.run(1);
        Expect.same("back at 0", net.queue(0, 2), 1);
        Expect.same("its shadow, too", net.shadow(0, 2), 1);
        Expect.same("a loop", net.flow(0, 8), 1);
    }

    private static void greatestDelayIsNotTheLatest() {
        PressureNet net = Expect.net("net 2;link 0 1 1;flow 0 1 0");
        net.inject(0, 3);
        net.run(3);
        Expect.same("the latest is the greatest", net.flow(0, 10), 3);
        net.inject(0, 1);
        net.run(1);
        Expect.same("1, 2, 3 and 1", net.flow(0, 9), 7);
        Expect.same("the greatest stays", net.flow(0, 10), 3);
    }

    private static void expiryAtAnyNode() {
        PressureNet net = Expect.net("net 4;link 0 1 1;link 1 2 1;flow 0 3 0 budget 3");
        net.inject(0, 1);
        net.run(2);
        Expect.same("it is at 2", net.queue(2, 3), 1);
        Expect.same("it expires there", net.run(1), 0);
        Expect.same("expired", net.flow(0, 7), 1);
    }

    private static void expiryLeavesShadows() {
        PressureNet net = Expect.net("net 2;flow 0 1 100 budget 1;excess 0");
        Expect.same("all expire", net.run(3), 0);
        Expect.same("expired", net.flow(0, 7), 3);
        Expect.same("the shadow stays", net.shadow(0, 1), 3);
        net.inject(0, 5);
        net.flush(0, 1);
        Expect.same("flush leaves it, too", net.shadow(0, 1), 3);
    }

    private static void budgetOfOneFlowOfThree() {
        for (int one = 0; one < 3; one++) {
            PressureNet net = Expect.net("net 2;flow 0 1 0;flow 0 1 0;flow 0 1 0");
            net.setBudget(one, 1);
            for (int flow = 0; flow < 3; flow++) {
                net.inject(flow, 2);
            }
            Expect.same("two expire", net.run(1), 4);
            Expect.same("they are of flow " + one, net.flow(one, 7), 2);
        }
    }

    private static void peakBehindEachSlotOfARun() {
        PressureNet net = Expect.net("net 2;link 0 1 5;flow 0 1 0");
        net.inject(0, 100);
        Expect.same("85 behind the third slot", net.run(3), 85);
        Expect.same("95 behind the first one", net.total(2), 95);
    }

    // ---- Changes and answers

    private static void settingChangesNothingElse() {
        int[] values = {1, 33, 19, 1};
        for (int what = 0; what < 4; what++) {
            PressureNet net = Expect.net("net 4;link 0 1 2;link 1 2 1;link 3 0 1;conflict 0 1;flow 0 2 170;flow 3 1 90 budget 60");
            net.run(9);
            long[] totals = totals(net);
            net.set(what, values[what]);
            Expect.same("set " + what, net.count(3 + what), values[what]);
            Expect.same("totals", Arrays.equals(totals(net), totals) ? 1 : 0, 1);
            net.set(what, 0);
            Expect.same("totals when set back", Arrays.equals(totals(net), totals) ? 1 : 0, 1);
        }
    }

    private static long[] totals(PressureNet net) {
        long[] all = new long[6];
        for (int what = 0; what < 6; what++) {
            all[what] = net.total(what);
        }
        return all;
    }

    private static void resetOfAllShadows() {
        PressureNet net = Expect.net("net 4;link 0 1 2;link 1 2 1;flow 0 3 300;excess 50");
        net.run(7);
        Expect.same("node 1 has one", net.shadow(1, 3) > 0 ? 1 : 0, 1);
        Expect.same("node 2 has one", net.shadow(2, 3) > 0 ? 1 : 0, 1);
        Expect.same("the sum of all", net.resetShadows(), 7 * 45 / 10);
        for (int node = 0; node < 3; node++) {
            Expect.same("shadow of " + node, net.shadow(node, 3), 0);
        }
    }

    private static void servedFromTheSameNodeOnly() {
        PressureNet net = Expect.net("net 4;link 0 2 3;link 1 2 3;flow 0 3 0;flow 1 3 0");
        net.inject(0, 4);
        net.inject(1, 4);
        Expect.same("link 0", net.link(0, 7), 3);
        Expect.same("link 1 takes from another queue for the same node", net.link(1, 7), 3);
    }

    private static void meanDelayOfOneFlowAlone() {
        PressureNet net = Expect.net("net 3;link 0 1 1;link 2 1 1;flow 0 1 0;flow 2 1 0");
        net.inject(0, 2);
        net.inject(1, 4);
        net.run(4);
        Expect.same("numerator of 3/2", net.meanDelay(0, false), 3);
        Expect.same("denominator of 3/2", net.meanDelay(0, true), 2);
        Expect.same("numerator of 10/4", net.meanDelay(1, false), 5);
        Expect.same("denominator of 10/4", net.meanDelay(1, true), 2);
    }

    // ---- Looking ahead

    /** What has been counted until now counts on: loops, delays, lost ones, and all the others. */
    private static void forecastGoesOnFromNow() {
        PressureNet net = Expect.net("net 4;link 0 1 3;link 1 0 1;link 1 2 1;flow 0 2 250 budget 9;flow 0 3 40");
        net.run(30);
        net.flush(0, 2);
        int[] now = numbers(net);
        for (int number = 4; number < 11; number++) {
            Expect.same("a number of each kind, " + number, now[number] + now[11 + number] > 0 ? 1 : 0, 1);
        }
        int[] told = new int[22];
        for (int i = 0; i < 22; i++) {
            told[i] = net.forecastFlow(i / 11, 6, i % 11);
        }
        net.run(6);
        int[] come = numbers(net);
        for (int i = 0; i < 22; i++) {
            Expect.same("number " + i % 11 + " of flow " + i / 11, told[i], come[i]);
        }
    }

    private static int[] numbers(PressureNet net) {
        int[] all = new int[22];
        for (int i = 0; i < 22; i++) {
            all[i] = net.flow(i / 11, i % 11);
        }
        return all;
    }

    private static void slotsToFullLooksAtThePacketsThere() {
        PressureNet net = Expect.net("net 2;link 0 1 5;flow 0 1 0");
        net.inject(0, 20);
        net.run(2);
        Expect.same("15 were there", net.total(2), 15);
        Expect.fails("they are there no more", Expect.ELEMENT, () -> net.slotsToFull(50, 11));
        Expect.same("10 are", net.slotsToFull(50, 10), 0);
        PressureNet late = Expect.net("net 2;flow 0 1 100");
        late.run(40);
        Expect.same("counted from now", late.slotsToFull(50, 43), 3);
    }

    private static void bestBiasByPacketsThenLoopsOfAllFlows() {
        PressureNet net = Expect.net("net 4;link 3 2 3;link 2 0 3;link 0 1 3;link 0 2 1;flow 0 1 270;flow 3 1 260;"
            + "flow 3 2 220;bias 8");
        net.inject(0, 4);
        // By loops before packets it would be 17; by the loops of flow 0 alone 12; by those of flow 2 alone 0.
        Expect.same("bestBias", net.bestBias(12), 15);
        Expect.same("as by runs", LookAheadTest.slowBias(net, 12), 15);
    }

    private static void bestExcessByDeliveredPacketsOfAllFlows() {
        PressureNet both = Expect.net("net 3;link 0 2 2;link 2 1 3;flow 0 1 80;flow 2 1 210;excess 0;bias 8;scheduler exact");
        both.inject(0, 7);
        // By the packets of flow 0 alone it would be 0, by those of flow 1 alone 50.
        Expect.same("of both flows", both.bestExcess(11), 30);
        PressureNet gone = Expect.net("net 4;link 2 1 1;flow 2 1 90 budget 1;flow 3 1 80;excess 0");
        gone.inject(0, 1);
        // Packets of flow 0 are delivered or expire in the same slot, so that as many are in the net anyway.
        Expect.same("delivered ones, not those that are left", gone.bestExcess(9), 20);
    }

    /** The settings that a method does not try stay as they are now. */
    private static void settingsOfNowHold() {
        PressureNet bias = Expect.net("net 3;link 2 0 2;link 1 0 1;link 1 2 1;conflict 0 2;conflict 1 0;flow 1 0 150;"
            + "flow 2 1 290;mode shadow;excess 40;bias 6;scheduler exact");
        bias.inject(0, 6);
        // In mode 0 it would be 6, by greedy 7, with the excess 10 it would be 9.
        Expect.same("bestBias", bias.bestBias(3), 17);
        PressureNet excess = Expect.net("net 4;link 0 2 3;link 2 3 2;link 1 0 2;conflict 1 2;conflict 0 2;flow 1 3 200;"
            + "flow 0 3 40;bias 14;scheduler exact");
        // With the bias 0 it would be 0, by greedy 10.
        Expect.same("bestExcess", excess.bestExcess(7), 50);
        PressureNet settings = Expect.net("net 4;link 3 0 2;flow 3 0 70;flow 3 2 170;excess 40;bias 7;scheduler exact");
        settings.inject(0, 6);
        // With the bias 0 or the excess 10 it would be 0.
        Expect.same("bestSettings", settings.bestSettings(10), 10);
        for (int scheduler = 0; scheduler < 2; scheduler++) {
            PressureNet row = Expect.net("net 4;link 0 1 1;link 1 2 1;link 2 3 1;conflict 0 1;conflict 1 2;"
                + "flow 0 1 0;flow 1 2 0;flow 2 3 0;flow 3 0 200");
            row.set(3, scheduler);
            int[] packets = {5, 6, 5, 84};
            for (int flow = 0; flow < 4; flow++) {
                row.inject(flow, packets[flow]);
            }
            // Greedy sends one packet, from node 1, and exact two, from the nodes 0 and 2; two come.
            Expect.same("forecast", row.forecast(1, 1), 101 - scheduler);
            Expect.same("forecastFlow", row.forecastFlow(2, 1, 6), scheduler);
            if (scheduler == 0) {
                Expect.same("slotsToFull", row.slotsToFull(1, 101), 1);
            } else {
                Expect.fails("slotsToFull", Expect.ELEMENT, () -> row.slotsToFull(1, 101));
            }
            Expect.same("sustainable", row.sustainable(3, 1), scheduler == 0 ? 199 : 299);
        }
    }

    private static void sustainableForgetsThePast() {
        PressureNet net = Expect.net("net 2;flow 0 1 0");
        net.inject(0, 100);
        net.inject(0, 50);
        net.run(1);
        net.flush(0, 1);
        Expect.same("150 were there", net.total(2), 150);
        Expect.same("that does not matter", net.sustainable(0, 20), 300);
    }

    /** Slots pass on the copy as run() lets them pass, whatever the net and its settings are. */
    private static void aheadAsByRuns() {
        for (int seed = 0; seed < 100; seed++) {
            PressureNet net = anyNet(seed);
            Random random = new Random(-seed);
            int slots = 1 + random.nextInt(20);
            int flow = random.nextInt(net.count(2));
            forecastAsByRun(net, anyNet(seed), slots, flow);
            slotsToFullAsByRuns(net, anyNet(seed), slots, (int) net.total(1) + 1 + random.nextInt(20));
            Expect.same("bestBias", net.bestBias(slots), bestByRuns(seed, slots, 2));
            Expect.same("bestExcess", net.bestExcess(slots), bestByRuns(seed, slots, 1));
            Expect.same("bestSettings", net.bestSettings(slots), bestByRuns(seed, slots, 0));
            Expect.same("sustainable", net.sustainable(flow, slots), sustainableByRuns(seed, slots, flow));
        }
    }

    /** The same net for the same seed: links, conflicts, flows and settings of any kind, and packets. */
    private static PressureNet anyNet(int seed) {
        Random random = new Random(seed);
        int nodes = 3 + random.nextInt(3);
        PressureNet net = Expect.net("net " + nodes);
        boolean[] told = new boolean[nodes * nodes];
        for (int i = 5 + random.nextInt(5); i > 0; i--) {
            int from = random.nextInt(nodes);
            int to = (from + 1 + random.nextInt(nodes - 1)) % nodes;
            if (!told[from * nodes + to]) {
                told[from * nodes + to] = true;
                net.addLink(from, to, 1 + random.nextInt(3));
            }
        }
        for (int i = random.nextInt(6); i > 0 && net.count(1) > 1; i--) {
            int link = random.nextInt(net.count(1));
            net.setConflict(link, (link + 1 + random.nextInt(net.count(1) - 1)) % net.count(1), true);
        }
        for (int i = 2 + random.nextInt(2); i > 0; i--) {
            int from = random.nextInt(nodes);
            int budget = random.nextInt(3) == 0 ? 3 + random.nextInt(20) : 0;
            int flow = net.addFlow(from, (from + 1 + random.nextInt(nodes - 1)) % nodes, random.nextInt(150), budget);
            net.inject(flow, 1 + random.nextInt(30));
        }
        int[] greatest = {1, 50, 20, 1};
        for (int what = 0; what < 4; what++) {
            net.set(what, random.nextInt(greatest[what] + 1));
        }
        net.run(1 + random.nextInt(20));
        return net;
    }

    private static void forecastAsByRun(PressureNet net, PressureNet twin, int slots, int flow) {
        twin.run(slots);
        for (int what = 0; what < 6; what++) {
            Expect.same("forecast " + what, net.forecast(slots, what), twin.total(what));
        }
        for (int what = 0; what < 11; what++) {
            Expect.same("forecastFlow " + what, net.forecastFlow(flow, slots, what), twin.flow(flow, what));
        }
    }

    private static void slotsToFullAsByRuns(PressureNet net, PressureNet twin, int slots, int packets) {
        int passed = 0;
        while (passed < slots && twin.total(1) < packets) {
            twin.run(1);
            passed++;
        }
        if (twin.total(1) >= packets) {
            Expect.same("slotsToFull", net.slotsToFull(slots, packets), passed);
        } else {
            Expect.fails("slotsToFull", Expect.ELEMENT, () -> net.slotsToFull(slots, packets));
        }
    }

    /** What is to be found: 0 bestSettings(), 1 bestExcess(), 2 bestBias(). */
    private static int bestByRuns(int seed, int slots, int kind) {
        int[][] choices = {{0, 1, 10, 11}, {0, 10, 20, 30, 40, 50}, new int[21]};
        for (int bias = 0; bias <= 20; bias++) {
            choices[2][bias] = bias;
        }
        int best = -1;
        long least = 0;
        for (int choice : choices[kind]) {
            PressureNet twin = anyNet(seed);
            twin.set(0, kind == 0 ? choice / 10 : kind == 1 ? 1 : twin.count(3));
            twin.set(kind == 0 ? 3 : kind, kind == 0 ? choice % 10 : choice);
            twin.run(slots);
            long bad = kind == 0 ? twin.total(4) : kind == 1 ? -sum(twin, 6) : 1_000_000 * twin.total(1) + sum(twin, 8);
            if (best < 0 || bad < least) {
                best = choice;
                least = bad;
            }
        }
        return best;
    }

    private static long sum(PressureNet net, int what) {
        long sum = 0;
        for (int flow = 0; flow < net.count(2); flow++) {
            sum += net.flow(flow, what);
        }
        return sum;
    }

    private static int sustainableByRuns(int seed, int slots, int flow) {
        for (int rate = 0; rate <= 300; rate++) {
            PressureNet twin = anyNet(seed);
            twin.setRate(flow, rate);
            for (int slot = 0; slot < slots; slot++) {
                if (twin.run(1) > 100) {
                    return rate - 1;
                }
            }
        }
        return 300;
    }
}
